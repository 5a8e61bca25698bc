theorem sh_nadd {x y : Int32} {a b : Nat} (h1 : x = nI a) (h2 : y = nI b) : x + y = nI (a + b) := by rw [h1, h2]; exact nI_add a b
theorem sh_nmul {x y : Int32} {a b : Nat} (h1 : x = nI a) (h2 : y = nI b) : x * y = nI (a * b) := by rw [h1, h2]; exact pk_mul a b
theorem sh_mti {mq : Nat} {A : Nat → Nat} {d : sh_Md} {pc : Nat} {lv : List (Nat × Value)} {st : List Value} {I I' : sh_II} {D D' : sh_DD} {cs ss : Nat} {v : Option Value} {x y : Int32} (e : x = y) (k : sh_mW mq A d (pc, lv, .int y :: st) I D cs ss v I' D') : sh_mW mq A d (pc, lv, .int x :: st) I D cs ss v I' D' := by rw [e]; exact k
theorem sh_mtd {mq : Nat} {A : Nat → Nat} {d : sh_Md} {pc : Nat} {lv : List (Nat × Value)} {st : List Value} {I I' : sh_II} {D D' : sh_DD} {cs ss : Nat} {v : Option Value} {x y : UInt64} (e : x = y) (k : sh_mW mq A d (pc, lv, .double y :: st) I D cs ss v I' D') : sh_mW mq A d (pc, lv, .double x :: st) I D cs ss v I' D' := by rw [e]; exact k
theorem mt_Mod_thrown_1 {mq : Nat} {A : Nat → Nat} {I : sh_II} {D : sh_DD}  : sh_mM mq A md_Mod_thrown [.ref mq] I D (some (.int (I 0 0))) I D := by
  refine sh_mp (fun w Z k => sh_aload_n dc_Mod_thrown_0 rfl rfl k) ?_
  refine sh_mget 0 dc_Mod_thrown_1 (by decide) fl_Mod_78 rfl rfl rfl rfl ?_
  exact sh_me (fun w => sh_ireturn dc_Mod_thrown_4 rfl rfl (by decide) (by decide))
theorem mt_Mod_fail_1 {mq : Nat} {A : Nat → Nat} {I : sh_II} {D : sh_DD} {c : Int32} : sh_mM mq A md_Mod_fail [.ref mq, .int c] I D (some (.int 0)) (sh_u2 I 0 0 c) D := by
  refine sh_mp (fun w Z k => sh_aload_n dc_Mod_fail_0 rfl rfl k) ?_
  refine sh_mp (fun w Z k => sh_iload_n dc_Mod_fail_1 rfl rfl k) ?_
  refine sh_mput 0 dc_Mod_fail_2 (by decide) fl_Mod_78 rfl ?_
  refine sh_mp (fun w Z k => sh_iconst (v := 0) dc_Mod_fail_5 (by decide) k) ?_
  exact sh_me (fun w => sh_ireturn dc_Mod_fail_6 rfl rfl (by decide) (by decide))
theorem mt_Mod_out_1 {mq : Nat} {A : Nat → Nat} {I : sh_II} {D : sh_DD} {a : Int32} {b : Int32} (c0_1 : a < 0) : sh_mM mq A md_Mod_out [.ref mq, .int a, .int b] I D (some (.int 1)) I D := by
  refine sh_mp (fun w Z k => sh_iload_n dc_Mod_out_0 rfl rfl k) ?_
  refine sh_mp (fun w Z k => sh_if_lt (tgt := 9) dc_Mod_out_1 (by decide) (fun _ => k) (fun z => absurd c0_1 z)) ?_
  refine sh_mp (fun w Z k => sh_iconst (v := 1) dc_Mod_out_9 (by decide) k) ?_
  refine sh_mp (fun w Z k => sh_goto_ (tgt := 14) dc_Mod_out_10 (by decide) k) ?_
  exact sh_me (fun w => sh_ireturn dc_Mod_out_14 rfl rfl (by decide) (by decide))
theorem mt_Mod_out_2 {mq : Nat} {A : Nat → Nat} {I : sh_II} {D : sh_DD} {a : Int32} {b : Int32} (c0_1 : ¬ a < 0) (c1_6 : a < b) : sh_mM mq A md_Mod_out [.ref mq, .int a, .int b] I D (some (.int 0)) I D := by
  refine sh_mp (fun w Z k => sh_iload_n dc_Mod_out_0 rfl rfl k) ?_
  refine sh_mp (fun w Z k => sh_if_lt (tgt := 9) dc_Mod_out_1 (by decide) (fun z => absurd z c0_1) (fun _ => k)) ?_
  refine sh_mp (fun w Z k => sh_iload_n dc_Mod_out_4 rfl rfl k) ?_
  refine sh_mp (fun w Z k => sh_iload_n dc_Mod_out_5 rfl rfl k) ?_
  refine sh_mp (fun w Z k => sh_icmp_lt (tgt := 13) dc_Mod_out_6 (by decide) (fun _ => k) (fun z => absurd c1_6 z)) ?_
  refine sh_mp (fun w Z k => sh_iconst (v := 0) dc_Mod_out_13 (by decide) k) ?_
  exact sh_me (fun w => sh_ireturn dc_Mod_out_14 rfl rfl (by decide) (by decide))
theorem mt_Mod_out_3 {mq : Nat} {A : Nat → Nat} {I : sh_II} {D : sh_DD} {a : Int32} {b : Int32} (c0_1 : ¬ a < 0) (c1_6 : ¬ a < b) : sh_mM mq A md_Mod_out [.ref mq, .int a, .int b] I D (some (.int 1)) I D := by
  refine sh_mp (fun w Z k => sh_iload_n dc_Mod_out_0 rfl rfl k) ?_
  refine sh_mp (fun w Z k => sh_if_lt (tgt := 9) dc_Mod_out_1 (by decide) (fun z => absurd z c0_1) (fun _ => k)) ?_
  refine sh_mp (fun w Z k => sh_iload_n dc_Mod_out_4 rfl rfl k) ?_
  refine sh_mp (fun w Z k => sh_iload_n dc_Mod_out_5 rfl rfl k) ?_
  refine sh_mp (fun w Z k => sh_icmp_lt (tgt := 13) dc_Mod_out_6 (by decide) (fun z => absurd z c1_6) (fun _ => k)) ?_
  refine sh_mp (fun w Z k => sh_iconst (v := 1) dc_Mod_out_9 (by decide) k) ?_
  refine sh_mp (fun w Z k => sh_goto_ (tgt := 14) dc_Mod_out_10 (by decide) k) ?_
  exact sh_me (fun w => sh_ireturn dc_Mod_out_14 rfl rfl (by decide) (by decide))
theorem mt_Mod_isLock_1 {mq : Nat} {A : Nat → Nat} {I : sh_II} {D : sh_DD} {s : Nat} (hs : s < 8) (c0_6 : (I 12 s) = 0) : sh_mM mq A md_Mod_isLock [.ref mq, .int (nI s)] I D (some (.int 1)) I D := by
  refine sh_mp (fun w Z k => sh_aload_n dc_Mod_isLock_0 rfl rfl k) ?_
  refine sh_mget 12 dc_Mod_isLock_1 (by decide) fl_Mod_42 rfl rfl rfl rfl ?_
  refine sh_mp (fun w Z k => sh_iload_n dc_Mod_isLock_4 rfl rfl k) ?_
  refine sh_miald 12 (l := 8) (k := s) dc_Mod_isLock_5 (by decide) rfl (by omega) (by decide) ?_
  refine sh_mp (fun w Z k => sh_if_eq (tgt := 19) dc_Mod_isLock_6 (by decide) (fun _ => k) (fun z => absurd c0_6 z)) ?_
  refine sh_mp (fun w Z k => sh_iconst (v := 1) dc_Mod_isLock_19 (by decide) k) ?_
  refine sh_mp (fun w Z k => sh_goto_ (tgt := 24) dc_Mod_isLock_20 (by decide) k) ?_
  exact sh_me (fun w => sh_ireturn dc_Mod_isLock_24 rfl rfl (by decide) (by decide))
theorem mt_Mod_isLock_2 {mq : Nat} {A : Nat → Nat} {I : sh_II} {D : sh_DD} {s : Nat} (hs : s < 8) (c0_6 : ¬ (I 12 s) = 0) (c1_16 : ¬ (I 12 s) = 1) : sh_mM mq A md_Mod_isLock [.ref mq, .int (nI s)] I D (some (.int 0)) I D := by
  refine sh_mp (fun w Z k => sh_aload_n dc_Mod_isLock_0 rfl rfl k) ?_
  refine sh_mget 12 dc_Mod_isLock_1 (by decide) fl_Mod_42 rfl rfl rfl rfl ?_
  refine sh_mp (fun w Z k => sh_iload_n dc_Mod_isLock_4 rfl rfl k) ?_
  refine sh_miald 12 (l := 8) (k := s) dc_Mod_isLock_5 (by decide) rfl (by omega) (by decide) ?_
  refine sh_mp (fun w Z k => sh_if_eq (tgt := 19) dc_Mod_isLock_6 (by decide) (fun z => absurd z c0_6) (fun _ => k)) ?_
  refine sh_mp (fun w Z k => sh_aload_n dc_Mod_isLock_9 rfl rfl k) ?_
  refine sh_mget 12 dc_Mod_isLock_10 (by decide) fl_Mod_42 rfl rfl rfl rfl ?_
  refine sh_mp (fun w Z k => sh_iload_n dc_Mod_isLock_13 rfl rfl k) ?_
  refine sh_miald 12 (l := 8) (k := s) dc_Mod_isLock_14 (by decide) rfl (by omega) (by decide) ?_
  refine sh_mp (fun w Z k => sh_iconst (v := 1) dc_Mod_isLock_15 (by decide) k) ?_
  refine sh_mp (fun w Z k => sh_icmp_ne (tgt := 23) dc_Mod_isLock_16 (by decide) (fun _ => k) (fun z => absurd z c1_16)) ?_
  refine sh_mp (fun w Z k => sh_iconst (v := 0) dc_Mod_isLock_23 (by decide) k) ?_
  exact sh_me (fun w => sh_ireturn dc_Mod_isLock_24 rfl rfl (by decide) (by decide))
theorem mt_Mod_isLock_3 {mq : Nat} {A : Nat → Nat} {I : sh_II} {D : sh_DD} {s : Nat} (hs : s < 8) (c0_6 : ¬ (I 12 s) = 0) (c1_16 : (I 12 s) = 1) : sh_mM mq A md_Mod_isLock [.ref mq, .int (nI s)] I D (some (.int 1)) I D := by
  refine sh_mp (fun w Z k => sh_aload_n dc_Mod_isLock_0 rfl rfl k) ?_
  refine sh_mget 12 dc_Mod_isLock_1 (by decide) fl_Mod_42 rfl rfl rfl rfl ?_
  refine sh_mp (fun w Z k => sh_iload_n dc_Mod_isLock_4 rfl rfl k) ?_
  refine sh_miald 12 (l := 8) (k := s) dc_Mod_isLock_5 (by decide) rfl (by omega) (by decide) ?_
  refine sh_mp (fun w Z k => sh_if_eq (tgt := 19) dc_Mod_isLock_6 (by decide) (fun z => absurd z c0_6) (fun _ => k)) ?_
  refine sh_mp (fun w Z k => sh_aload_n dc_Mod_isLock_9 rfl rfl k) ?_
  refine sh_mget 12 dc_Mod_isLock_10 (by decide) fl_Mod_42 rfl rfl rfl rfl ?_
  refine sh_mp (fun w Z k => sh_iload_n dc_Mod_isLock_13 rfl rfl k) ?_
  refine sh_miald 12 (l := 8) (k := s) dc_Mod_isLock_14 (by decide) rfl (by omega) (by decide) ?_
  refine sh_mp (fun w Z k => sh_iconst (v := 1) dc_Mod_isLock_15 (by decide) k) ?_
  refine sh_mp (fun w Z k => sh_icmp_ne (tgt := 23) dc_Mod_isLock_16 (by decide) (fun z => absurd c1_16 z) (fun _ => k)) ?_
  refine sh_mp (fun w Z k => sh_iconst (v := 1) dc_Mod_isLock_19 (by decide) k) ?_
  refine sh_mp (fun w Z k => sh_goto_ (tgt := 24) dc_Mod_isLock_20 (by decide) k) ?_
  exact sh_me (fun w => sh_ireturn dc_Mod_isLock_24 rfl rfl (by decide) (by decide))
theorem mt_Mod_badLimit_1 {mq : Nat} {A : Nat → Nat} {I : sh_II} {D : sh_DD} {a : UInt64} (c0_5 : (Op.cmpValue (FP.dcmp a 13830554455654793216) .l) < 0) : sh_mM mq A md_Mod_badLimit [.ref mq, .double a] I D (some (.int 1)) I D := by
  refine sh_mp (fun w Z k => sh_dload_n dc_Mod_badLimit_0 rfl rfl k) ?_
  refine sh_mp (fun w Z k => sh_ldc2d (v := 13830554455654793216) dc_Mod_badLimit_1 wd_973 k) ?_
  refine sh_mp (fun w Z k => sh_dcmp dc_Mod_badLimit_4 k) ?_
  refine sh_mp (fun w Z k => sh_if_lt (tgt := 16) dc_Mod_badLimit_5 (by decide) (fun _ => k) (fun z => absurd c0_5 z)) ?_
  refine sh_mp (fun w Z k => sh_iconst (v := 1) dc_Mod_badLimit_16 (by decide) k) ?_
  refine sh_mp (fun w Z k => sh_goto_ (tgt := 21) dc_Mod_badLimit_17 (by decide) k) ?_
  exact sh_me (fun w => sh_ireturn dc_Mod_badLimit_21 rfl rfl (by decide) (by decide))
theorem mt_Mod_badLimit_2 {mq : Nat} {A : Nat → Nat} {I : sh_II} {D : sh_DD} {a : UInt64} (c0_5 : ¬ (Op.cmpValue (FP.dcmp a 13830554455654793216) .l) < 0) (c1_13 : (Op.cmpValue (FP.dcmp a 4652007308841189376) .g) ≤ 0) : sh_mM mq A md_Mod_badLimit [.ref mq, .double a] I D (some (.int 0)) I D := by
  refine sh_mp (fun w Z k => sh_dload_n dc_Mod_badLimit_0 rfl rfl k) ?_
  refine sh_mp (fun w Z k => sh_ldc2d (v := 13830554455654793216) dc_Mod_badLimit_1 wd_973 k) ?_
  refine sh_mp (fun w Z k => sh_dcmp dc_Mod_badLimit_4 k) ?_
  refine sh_mp (fun w Z k => sh_if_lt (tgt := 16) dc_Mod_badLimit_5 (by decide) (fun z => absurd z c0_5) (fun _ => k)) ?_
  refine sh_mp (fun w Z k => sh_dload_n dc_Mod_badLimit_8 rfl rfl k) ?_
  refine sh_mp (fun w Z k => sh_ldc2d (v := 4652007308841189376) dc_Mod_badLimit_9 wd_964 k) ?_
  refine sh_mp (fun w Z k => sh_dcmp dc_Mod_badLimit_12 k) ?_
  refine sh_mp (fun w Z k => sh_if_le (tgt := 20) dc_Mod_badLimit_13 (by decide) (fun _ => k) (fun z => absurd c1_13 z)) ?_
  refine sh_mp (fun w Z k => sh_iconst (v := 0) dc_Mod_badLimit_20 (by decide) k) ?_
  exact sh_me (fun w => sh_ireturn dc_Mod_badLimit_21 rfl rfl (by decide) (by decide))
theorem mt_Mod_badLimit_3 {mq : Nat} {A : Nat → Nat} {I : sh_II} {D : sh_DD} {a : UInt64} (c0_5 : ¬ (Op.cmpValue (FP.dcmp a 13830554455654793216) .l) < 0) (c1_13 : ¬ (Op.cmpValue (FP.dcmp a 4652007308841189376) .g) ≤ 0) : sh_mM mq A md_Mod_badLimit [.ref mq, .double a] I D (some (.int 1)) I D := by
  refine sh_mp (fun w Z k => sh_dload_n dc_Mod_badLimit_0 rfl rfl k) ?_
  refine sh_mp (fun w Z k => sh_ldc2d (v := 13830554455654793216) dc_Mod_badLimit_1 wd_973 k) ?_
  refine sh_mp (fun w Z k => sh_dcmp dc_Mod_badLimit_4 k) ?_
  refine sh_mp (fun w Z k => sh_if_lt (tgt := 16) dc_Mod_badLimit_5 (by decide) (fun z => absurd z c0_5) (fun _ => k)) ?_
  refine sh_mp (fun w Z k => sh_dload_n dc_Mod_badLimit_8 rfl rfl k) ?_
  refine sh_mp (fun w Z k => sh_ldc2d (v := 4652007308841189376) dc_Mod_badLimit_9 wd_964 k) ?_
  refine sh_mp (fun w Z k => sh_dcmp dc_Mod_badLimit_12 k) ?_
  refine sh_mp (fun w Z k => sh_if_le (tgt := 20) dc_Mod_badLimit_13 (by decide) (fun z => absurd z c1_13) (fun _ => k)) ?_
  refine sh_mp (fun w Z k => sh_iconst (v := 1) dc_Mod_badLimit_16 (by decide) k) ?_
  refine sh_mp (fun w Z k => sh_goto_ (tgt := 21) dc_Mod_badLimit_17 (by decide) k) ?_
  exact sh_me (fun w => sh_ireturn dc_Mod_badLimit_21 rfl rfl (by decide) (by decide))
theorem mt_Mod_check_1 {mq : Nat} {A : Nat → Nat} {I : sh_II} {D : sh_DD} {t : Nat} {s : Nat} (ht : t < 6) (hs : s < 8) (c0_6 : 0 ≤ (I 12 s)) (c1_19 : (I 1 t) = 0) : sh_mM mq A md_Mod_check [.ref mq, .int (nI t), .int (nI s)] I D (some (.int 0)) I D := by
  refine sh_mp (fun w Z k => sh_aload_n dc_Mod_check_0 rfl rfl k) ?_
  refine sh_mget 12 dc_Mod_check_1 (by decide) fl_Mod_42 rfl rfl rfl rfl ?_
  refine sh_mp (fun w Z k => sh_iload_n dc_Mod_check_4 rfl rfl k) ?_
  refine sh_miald 12 (l := 8) (k := s) dc_Mod_check_5 (by decide) rfl (by omega) (by decide) ?_
  refine sh_mp (fun w Z k => sh_if_ge (tgt := 13) dc_Mod_check_6 (by decide) (fun _ => k) (fun z => absurd c0_6 z)) ?_
  refine sh_mp (fun w Z k => sh_aload_n dc_Mod_check_13 rfl rfl k) ?_
  refine sh_mget 1 dc_Mod_check_14 (by decide) fl_Mod_7 rfl rfl rfl rfl ?_
  refine sh_mp (fun w Z k => sh_iload_n dc_Mod_check_17 rfl rfl k) ?_
  refine sh_mzald 1 (l := 6) (k := t) dc_Mod_check_18 (by decide) rfl (by omega) (by decide) ?_
  refine sh_mp (fun w Z k => sh_if_eq (tgt := 26) dc_Mod_check_19 (by decide) (fun _ => k) (fun z => absurd c1_19 z)) ?_
  refine sh_mp (fun w Z k => sh_iconst (v := 0) dc_Mod_check_26 (by decide) k) ?_
  exact sh_me (fun w => sh_ireturn dc_Mod_check_27 rfl rfl (by decide) (by decide))
theorem mt_Mod_check_2 {mq : Nat} {A : Nat → Nat} {I : sh_II} {D : sh_DD} {t : Nat} {s : Nat} (ht : t < 6) (hs : s < 8) (c0_6 : 0 ≤ (I 12 s)) (c1_19 : ¬ (I 1 t) = 0) : sh_mM mq A md_Mod_check [.ref mq, .int (nI t), .int (nI s)] I D (some (.int 3)) I D := by
  refine sh_mp (fun w Z k => sh_aload_n dc_Mod_check_0 rfl rfl k) ?_
  refine sh_mget 12 dc_Mod_check_1 (by decide) fl_Mod_42 rfl rfl rfl rfl ?_
  refine sh_mp (fun w Z k => sh_iload_n dc_Mod_check_4 rfl rfl k) ?_
  refine sh_miald 12 (l := 8) (k := s) dc_Mod_check_5 (by decide) rfl (by omega) (by decide) ?_
  refine sh_mp (fun w Z k => sh_if_ge (tgt := 13) dc_Mod_check_6 (by decide) (fun _ => k) (fun z => absurd c0_6 z)) ?_
  refine sh_mp (fun w Z k => sh_aload_n dc_Mod_check_13 rfl rfl k) ?_
  refine sh_mget 1 dc_Mod_check_14 (by decide) fl_Mod_7 rfl rfl rfl rfl ?_
  refine sh_mp (fun w Z k => sh_iload_n dc_Mod_check_17 rfl rfl k) ?_
  refine sh_mzald 1 (l := 6) (k := t) dc_Mod_check_18 (by decide) rfl (by omega) (by decide) ?_
  refine sh_mp (fun w Z k => sh_if_eq (tgt := 26) dc_Mod_check_19 (by decide) (fun z => absurd z c1_19) (fun _ => k)) ?_
  refine sh_mp (fun w Z k => sh_iconst (v := 3) dc_Mod_check_22 (by decide) k) ?_
  refine sh_mp (fun w Z k => sh_goto_ (tgt := 27) dc_Mod_check_23 (by decide) k) ?_
  exact sh_me (fun w => sh_ireturn dc_Mod_check_27 rfl rfl (by decide) (by decide))
theorem mt_Mod_check_3 {mq : Nat} {A : Nat → Nat} {I : sh_II} {D : sh_DD} {t : Nat} {s : Nat} (ht : t < 6) (hs : s < 8) (c0_6 : ¬ 0 ≤ (I 12 s)) : sh_mM mq A md_Mod_check [.ref mq, .int (nI t), .int (nI s)] I D (some (.int 2)) I D := by
  refine sh_mp (fun w Z k => sh_aload_n dc_Mod_check_0 rfl rfl k) ?_
  refine sh_mget 12 dc_Mod_check_1 (by decide) fl_Mod_42 rfl rfl rfl rfl ?_
  refine sh_mp (fun w Z k => sh_iload_n dc_Mod_check_4 rfl rfl k) ?_
  refine sh_miald 12 (l := 8) (k := s) dc_Mod_check_5 (by decide) rfl (by omega) (by decide) ?_
  refine sh_mp (fun w Z k => sh_if_ge (tgt := 13) dc_Mod_check_6 (by decide) (fun z => absurd z c0_6) (fun _ => k)) ?_
  refine sh_mp (fun w Z k => sh_iconst (v := 2) dc_Mod_check_9 (by decide) k) ?_
  refine sh_mp (fun w Z k => sh_goto_ (tgt := 27) dc_Mod_check_10 (by decide) k) ?_
  exact sh_me (fun w => sh_ireturn dc_Mod_check_27 rfl rfl (by decide) (by decide))
theorem mt_Mod_settle_1 {mq : Nat} {A : Nat → Nat} {I : sh_II} {D : sh_DD} {t : Nat} {c : Int32} (ht : t < 6) : sh_mM mq A md_Mod_settle [.ref mq, .int (nI t), .int c] I D (some (.int c)) (sh_u2 I 4 t c) D := by
  refine sh_mp (fun w Z k => sh_aload_n dc_Mod_settle_0 rfl rfl k) ?_
  refine sh_mget 4 dc_Mod_settle_1 (by decide) fl_Mod_20 rfl rfl rfl rfl ?_
  refine sh_mp (fun w Z k => sh_iload_n dc_Mod_settle_4 rfl rfl k) ?_
  refine sh_mp (fun w Z k => sh_iload_n dc_Mod_settle_5 rfl rfl k) ?_
  refine sh_miast 4 (l := 6) (k := t) dc_Mod_settle_6 (by decide) rfl (by omega) (by decide) ?_
  refine sh_mp (fun w Z k => sh_iload_n dc_Mod_settle_7 rfl rfl k) ?_
  exact sh_me (fun w => sh_ireturn dc_Mod_settle_8 rfl rfl (by decide) (by decide))
theorem mt_Mod_take_1 {mq : Nat} {A : Nat → Nat} {I : sh_II} {D : sh_DD} {t : Nat} {s : Nat} {m : Int32} (ht : t < 6) (hs : s < 8) (c0_11 : (I 12 s) = 2) : sh_mM mq A md_Mod_take [.ref mq, .int (nI t), .int (nI s), .int m] I D none (sh_u2 I 15 s ((I 15 s) - 1)) D := by
  refine sh_mp (fun w Z k => sh_aload_n dc_Mod_take_0 rfl rfl k) ?_
  refine sh_mget 12 dc_Mod_take_1 (by decide) fl_Mod_42 rfl rfl rfl rfl ?_
  refine sh_mp (fun w Z k => sh_iload_n dc_Mod_take_4 rfl rfl k) ?_
  refine sh_miald 12 (l := 8) (k := s) dc_Mod_take_5 (by decide) rfl (by omega) (by decide) ?_
  refine sh_mp (fun w Z k => sh_istore dc_Mod_take_6 (by decide) k) ?_
  refine sh_mp (fun w Z k => sh_iload dc_Mod_take_8 rfl k) ?_
  refine sh_mp (fun w Z k => sh_iconst (v := 2) dc_Mod_take_10 (by decide) k) ?_
  refine sh_mp (fun w Z k => sh_icmp_eq (tgt := 20) dc_Mod_take_11 (by decide) (fun _ => k) (fun z => absurd c0_11 z)) ?_
  refine sh_mp (fun w Z k => sh_aload_n dc_Mod_take_20 rfl rfl k) ?_
  refine sh_mget 15 dc_Mod_take_21 (by decide) fl_Mod_51 rfl rfl rfl rfl ?_
  refine sh_mp (fun w Z k => sh_iload_n dc_Mod_take_24 rfl rfl k) ?_
  refine sh_mp (fun w Z k => sh_dup2 dc_Mod_take_25 rfl rfl k) ?_
  refine sh_miald 15 (l := 8) (k := s) dc_Mod_take_26 (by decide) rfl (by omega) (by decide) ?_
  refine sh_mp (fun w Z k => sh_iconst (v := 1) dc_Mod_take_27 (by decide) k) ?_
  refine sh_mp (fun w Z k => sh_isub dc_Mod_take_28 k) ?_
  refine sh_miast 15 (l := 8) (k := s) dc_Mod_take_29 (by decide) rfl (by omega) (by decide) ?_
  refine sh_mp (fun w Z k => sh_goto_ (tgt := 84) dc_Mod_take_30 (by decide) k) ?_
  exact sh_me (fun w => sh_return dc_Mod_take_84 rfl (by decide) (by decide))
theorem mt_Mod_take_2 {mq : Nat} {A : Nat → Nat} {I : sh_II} {D : sh_DD} {t : Nat} {s : Nat} {m : Int32} (ht : t < 6) (hs : s < 8) (c0_11 : ¬ (I 12 s) = 2) (c1_17 : ¬ (I 12 s) = 3) (c2_36 : ¬ (I 12 s) = 5) (c3_64 : (I 12 s) = 4) : sh_mM mq A md_Mod_take [.ref mq, .int (nI t), .int (nI s), .int m] I D none I D := by
  refine sh_mp (fun w Z k => sh_aload_n dc_Mod_take_0 rfl rfl k) ?_
  refine sh_mget 12 dc_Mod_take_1 (by decide) fl_Mod_42 rfl rfl rfl rfl ?_
  refine sh_mp (fun w Z k => sh_iload_n dc_Mod_take_4 rfl rfl k) ?_
  refine sh_miald 12 (l := 8) (k := s) dc_Mod_take_5 (by decide) rfl (by omega) (by decide) ?_
  refine sh_mp (fun w Z k => sh_istore dc_Mod_take_6 (by decide) k) ?_
  refine sh_mp (fun w Z k => sh_iload dc_Mod_take_8 rfl k) ?_
  refine sh_mp (fun w Z k => sh_iconst (v := 2) dc_Mod_take_10 (by decide) k) ?_
  refine sh_mp (fun w Z k => sh_icmp_eq (tgt := 20) dc_Mod_take_11 (by decide) (fun z => absurd z c0_11) (fun _ => k)) ?_
  refine sh_mp (fun w Z k => sh_iload dc_Mod_take_14 rfl k) ?_
  refine sh_mp (fun w Z k => sh_iconst (v := 3) dc_Mod_take_16 (by decide) k) ?_
  refine sh_mp (fun w Z k => sh_icmp_ne (tgt := 33) dc_Mod_take_17 (by decide) (fun _ => k) (fun z => absurd z c1_17)) ?_
  refine sh_mp (fun w Z k => sh_iload dc_Mod_take_33 rfl k) ?_
  refine sh_mp (fun w Z k => sh_iconst (v := 5) dc_Mod_take_35 (by decide) k) ?_
  refine sh_mp (fun w Z k => sh_icmp_ne (tgt := 61) dc_Mod_take_36 (by decide) (fun _ => k) (fun z => absurd z c2_36)) ?_
  refine sh_mp (fun w Z k => sh_iload dc_Mod_take_61 rfl k) ?_
  refine sh_mp (fun w Z k => sh_iconst (v := 4) dc_Mod_take_63 (by decide) k) ?_
  refine sh_mp (fun w Z k => sh_icmp_eq (tgt := 84) dc_Mod_take_64 (by decide) (fun _ => k) (fun z => absurd c3_64 z)) ?_
  exact sh_me (fun w => sh_return dc_Mod_take_84 rfl (by decide) (by decide))
theorem mt_Mod_take_3 {mq : Nat} {A : Nat → Nat} {I : sh_II} {D : sh_DD} {t : Nat} {s : Nat} {m : Int32} (ht : t < 6) (hs : s < 8) (c0_11 : ¬ (I 12 s) = 2) (c1_17 : ¬ (I 12 s) = 3) (c2_36 : ¬ (I 12 s) = 5) (c3_64 : ¬ (I 12 s) = 4) : sh_mM mq A md_Mod_take [.ref mq, .int (nI t), .int (nI s), .int m] I D none (sh_u2 (sh_u2 I 13 s (nI t)) 14 s ((I 14 s) + 1)) D := by
  refine sh_mp (fun w Z k => sh_aload_n dc_Mod_take_0 rfl rfl k) ?_
  refine sh_mget 12 dc_Mod_take_1 (by decide) fl_Mod_42 rfl rfl rfl rfl ?_
  refine sh_mp (fun w Z k => sh_iload_n dc_Mod_take_4 rfl rfl k) ?_
  refine sh_miald 12 (l := 8) (k := s) dc_Mod_take_5 (by decide) rfl (by omega) (by decide) ?_
  refine sh_mp (fun w Z k => sh_istore dc_Mod_take_6 (by decide) k) ?_
  refine sh_mp (fun w Z k => sh_iload dc_Mod_take_8 rfl k) ?_
  refine sh_mp (fun w Z k => sh_iconst (v := 2) dc_Mod_take_10 (by decide) k) ?_
  refine sh_mp (fun w Z k => sh_icmp_eq (tgt := 20) dc_Mod_take_11 (by decide) (fun z => absurd z c0_11) (fun _ => k)) ?_
  refine sh_mp (fun w Z k => sh_iload dc_Mod_take_14 rfl k) ?_
  refine sh_mp (fun w Z k => sh_iconst (v := 3) dc_Mod_take_16 (by decide) k) ?_
  refine sh_mp (fun w Z k => sh_icmp_ne (tgt := 33) dc_Mod_take_17 (by decide) (fun _ => k) (fun z => absurd z c1_17)) ?_
  refine sh_mp (fun w Z k => sh_iload dc_Mod_take_33 rfl k) ?_
  refine sh_mp (fun w Z k => sh_iconst (v := 5) dc_Mod_take_35 (by decide) k) ?_
  refine sh_mp (fun w Z k => sh_icmp_ne (tgt := 61) dc_Mod_take_36 (by decide) (fun _ => k) (fun z => absurd z c2_36)) ?_
  refine sh_mp (fun w Z k => sh_iload dc_Mod_take_61 rfl k) ?_
  refine sh_mp (fun w Z k => sh_iconst (v := 4) dc_Mod_take_63 (by decide) k) ?_
  refine sh_mp (fun w Z k => sh_icmp_eq (tgt := 84) dc_Mod_take_64 (by decide) (fun z => absurd z c3_64) (fun _ => k)) ?_
  refine sh_mp (fun w Z k => sh_aload_n dc_Mod_take_67 rfl rfl k) ?_
  refine sh_mget 13 dc_Mod_take_68 (by decide) fl_Mod_45 rfl rfl rfl rfl ?_
  refine sh_mp (fun w Z k => sh_iload_n dc_Mod_take_71 rfl rfl k) ?_
  refine sh_mp (fun w Z k => sh_iload_n dc_Mod_take_72 rfl rfl k) ?_
  refine sh_miast 13 (l := 8) (k := s) dc_Mod_take_73 (by decide) rfl (by omega) (by decide) ?_
  refine sh_mp (fun w Z k => sh_aload_n dc_Mod_take_74 rfl rfl k) ?_
  refine sh_mget 14 dc_Mod_take_75 (by decide) fl_Mod_48 rfl rfl rfl rfl ?_
  refine sh_mp (fun w Z k => sh_iload_n dc_Mod_take_78 rfl rfl k) ?_
  refine sh_mp (fun w Z k => sh_dup2 dc_Mod_take_79 rfl rfl k) ?_
  refine sh_miald 14 (l := 8) (k := s) dc_Mod_take_80 (by decide) rfl (by omega) (by decide) ?_
  refine sh_mti (show ((sh_u2 I 13 s (nI t))) 14 s = I 14 s from (sh_u2_row (by decide) _)) ?_
  refine sh_mp (fun w Z k => sh_iconst (v := 1) dc_Mod_take_81 (by decide) k) ?_
  refine sh_mp (fun w Z k => sh_iadd dc_Mod_take_82 k) ?_
  refine sh_miast 14 (l := 8) (k := s) dc_Mod_take_83 (by decide) rfl (by omega) (by decide) ?_
  exact sh_me (fun w => sh_return dc_Mod_take_84 rfl (by decide) (by decide))
theorem mt_Mod_take_4 {mq : Nat} {A : Nat → Nat} {I : sh_II} {D : sh_DD} {t : Nat} {s : Nat} {m : Int32} (ht : t < 6) (hs : s < 8) (c0_11 : ¬ (I 12 s) = 2) (c1_17 : ¬ (I 12 s) = 3) (c2_36 : (I 12 s) = 5) (c3_40 : ¬ m = 0) (c4_64 : (I 12 s) = 4) : sh_mM mq A md_Mod_take [.ref mq, .int (nI t), .int (nI s), .int m] I D none I D := by
  refine sh_mp (fun w Z k => sh_aload_n dc_Mod_take_0 rfl rfl k) ?_
  refine sh_mget 12 dc_Mod_take_1 (by decide) fl_Mod_42 rfl rfl rfl rfl ?_
  refine sh_mp (fun w Z k => sh_iload_n dc_Mod_take_4 rfl rfl k) ?_
  refine sh_miald 12 (l := 8) (k := s) dc_Mod_take_5 (by decide) rfl (by omega) (by decide) ?_
  refine sh_mp (fun w Z k => sh_istore dc_Mod_take_6 (by decide) k) ?_
  refine sh_mp (fun w Z k => sh_iload dc_Mod_take_8 rfl k) ?_
  refine sh_mp (fun w Z k => sh_iconst (v := 2) dc_Mod_take_10 (by decide) k) ?_
  refine sh_mp (fun w Z k => sh_icmp_eq (tgt := 20) dc_Mod_take_11 (by decide) (fun z => absurd z c0_11) (fun _ => k)) ?_
  refine sh_mp (fun w Z k => sh_iload dc_Mod_take_14 rfl k) ?_
  refine sh_mp (fun w Z k => sh_iconst (v := 3) dc_Mod_take_16 (by decide) k) ?_
  refine sh_mp (fun w Z k => sh_icmp_ne (tgt := 33) dc_Mod_take_17 (by decide) (fun _ => k) (fun z => absurd z c1_17)) ?_
  refine sh_mp (fun w Z k => sh_iload dc_Mod_take_33 rfl k) ?_
  refine sh_mp (fun w Z k => sh_iconst (v := 5) dc_Mod_take_35 (by decide) k) ?_
  refine sh_mp (fun w Z k => sh_icmp_ne (tgt := 61) dc_Mod_take_36 (by decide) (fun z => absurd c2_36 z) (fun _ => k)) ?_
  refine sh_mp (fun w Z k => sh_iload_n dc_Mod_take_39 rfl rfl k) ?_
  refine sh_mp (fun w Z k => sh_if_ne (tgt := 61) dc_Mod_take_40 (by decide) (fun _ => k) (fun z => absurd z c3_40)) ?_
  refine sh_mp (fun w Z k => sh_iload dc_Mod_take_61 rfl k) ?_
  refine sh_mp (fun w Z k => sh_iconst (v := 4) dc_Mod_take_63 (by decide) k) ?_
  refine sh_mp (fun w Z k => sh_icmp_eq (tgt := 84) dc_Mod_take_64 (by decide) (fun _ => k) (fun z => absurd c4_64 z)) ?_
  exact sh_me (fun w => sh_return dc_Mod_take_84 rfl (by decide) (by decide))
theorem mt_Mod_take_5 {mq : Nat} {A : Nat → Nat} {I : sh_II} {D : sh_DD} {t : Nat} {s : Nat} {m : Int32} (ht : t < 6) (hs : s < 8) (c0_11 : ¬ (I 12 s) = 2) (c1_17 : ¬ (I 12 s) = 3) (c2_36 : (I 12 s) = 5) (c3_40 : ¬ m = 0) (c4_64 : ¬ (I 12 s) = 4) : sh_mM mq A md_Mod_take [.ref mq, .int (nI t), .int (nI s), .int m] I D none (sh_u2 (sh_u2 I 13 s (nI t)) 14 s ((I 14 s) + 1)) D := by
  refine sh_mp (fun w Z k => sh_aload_n dc_Mod_take_0 rfl rfl k) ?_
  refine sh_mget 12 dc_Mod_take_1 (by decide) fl_Mod_42 rfl rfl rfl rfl ?_
  refine sh_mp (fun w Z k => sh_iload_n dc_Mod_take_4 rfl rfl k) ?_
  refine sh_miald 12 (l := 8) (k := s) dc_Mod_take_5 (by decide) rfl (by omega) (by decide) ?_
  refine sh_mp (fun w Z k => sh_istore dc_Mod_take_6 (by decide) k) ?_
  refine sh_mp (fun w Z k => sh_iload dc_Mod_take_8 rfl k) ?_
  refine sh_mp (fun w Z k => sh_iconst (v := 2) dc_Mod_take_10 (by decide) k) ?_
  refine sh_mp (fun w Z k => sh_icmp_eq (tgt := 20) dc_Mod_take_11 (by decide) (fun z => absurd z c0_11) (fun _ => k)) ?_
  refine sh_mp (fun w Z k => sh_iload dc_Mod_take_14 rfl k) ?_
  refine sh_mp (fun w Z k => sh_iconst (v := 3) dc_Mod_take_16 (by decide) k) ?_
  refine sh_mp (fun w Z k => sh_icmp_ne (tgt := 33) dc_Mod_take_17 (by decide) (fun _ => k) (fun z => absurd z c1_17)) ?_
  refine sh_mp (fun w Z k => sh_iload dc_Mod_take_33 rfl k) ?_
  refine sh_mp (fun w Z k => sh_iconst (v := 5) dc_Mod_take_35 (by decide) k) ?_
  refine sh_mp (fun w Z k => sh_icmp_ne (tgt := 61) dc_Mod_take_36 (by decide) (fun z => absurd c2_36 z) (fun _ => k)) ?_
  refine sh_mp (fun w Z k => sh_iload_n dc_Mod_take_39 rfl rfl k) ?_
  refine sh_mp (fun w Z k => sh_if_ne (tgt := 61) dc_Mod_take_40 (by decide) (fun _ => k) (fun z => absurd z c3_40)) ?_
  refine sh_mp (fun w Z k => sh_iload dc_Mod_take_61 rfl k) ?_
  refine sh_mp (fun w Z k => sh_iconst (v := 4) dc_Mod_take_63 (by decide) k) ?_
  refine sh_mp (fun w Z k => sh_icmp_eq (tgt := 84) dc_Mod_take_64 (by decide) (fun z => absurd z c4_64) (fun _ => k)) ?_
  refine sh_mp (fun w Z k => sh_aload_n dc_Mod_take_67 rfl rfl k) ?_
  refine sh_mget 13 dc_Mod_take_68 (by decide) fl_Mod_45 rfl rfl rfl rfl ?_
  refine sh_mp (fun w Z k => sh_iload_n dc_Mod_take_71 rfl rfl k) ?_
  refine sh_mp (fun w Z k => sh_iload_n dc_Mod_take_72 rfl rfl k) ?_
  refine sh_miast 13 (l := 8) (k := s) dc_Mod_take_73 (by decide) rfl (by omega) (by decide) ?_
  refine sh_mp (fun w Z k => sh_aload_n dc_Mod_take_74 rfl rfl k) ?_
  refine sh_mget 14 dc_Mod_take_75 (by decide) fl_Mod_48 rfl rfl rfl rfl ?_
  refine sh_mp (fun w Z k => sh_iload_n dc_Mod_take_78 rfl rfl k) ?_
  refine sh_mp (fun w Z k => sh_dup2 dc_Mod_take_79 rfl rfl k) ?_
  refine sh_miald 14 (l := 8) (k := s) dc_Mod_take_80 (by decide) rfl (by omega) (by decide) ?_
  refine sh_mti (show ((sh_u2 I 13 s (nI t))) 14 s = I 14 s from (sh_u2_row (by decide) _)) ?_
  refine sh_mp (fun w Z k => sh_iconst (v := 1) dc_Mod_take_81 (by decide) k) ?_
  refine sh_mp (fun w Z k => sh_iadd dc_Mod_take_82 k) ?_
  refine sh_miast 14 (l := 8) (k := s) dc_Mod_take_83 (by decide) rfl (by omega) (by decide) ?_
  exact sh_me (fun w => sh_return dc_Mod_take_84 rfl (by decide) (by decide))
theorem mt_Mod_take_6 {mq : Nat} {A : Nat → Nat} {I : sh_II} {D : sh_DD} {t : Nat} {s : Nat} {m : Int32} (ht : t < 6) (hs : s < 8) (c0_11 : ¬ (I 12 s) = 2) (c1_17 : ¬ (I 12 s) = 3) (c2_36 : (I 12 s) = 5) (c3_40 : m = 0) : sh_mM mq A md_Mod_take [.ref mq, .int (nI t), .int (nI s), .int m] I D none (sh_u2 I 17 ((6 * s) + t) ((I 17 ((6 * s) + t)) + 1)) D := by
  refine sh_mp (fun w Z k => sh_aload_n dc_Mod_take_0 rfl rfl k) ?_
  refine sh_mget 12 dc_Mod_take_1 (by decide) fl_Mod_42 rfl rfl rfl rfl ?_
  refine sh_mp (fun w Z k => sh_iload_n dc_Mod_take_4 rfl rfl k) ?_
  refine sh_miald 12 (l := 8) (k := s) dc_Mod_take_5 (by decide) rfl (by omega) (by decide) ?_
  refine sh_mp (fun w Z k => sh_istore dc_Mod_take_6 (by decide) k) ?_
  refine sh_mp (fun w Z k => sh_iload dc_Mod_take_8 rfl k) ?_
  refine sh_mp (fun w Z k => sh_iconst (v := 2) dc_Mod_take_10 (by decide) k) ?_
  refine sh_mp (fun w Z k => sh_icmp_eq (tgt := 20) dc_Mod_take_11 (by decide) (fun z => absurd z c0_11) (fun _ => k)) ?_
  refine sh_mp (fun w Z k => sh_iload dc_Mod_take_14 rfl k) ?_
  refine sh_mp (fun w Z k => sh_iconst (v := 3) dc_Mod_take_16 (by decide) k) ?_
  refine sh_mp (fun w Z k => sh_icmp_ne (tgt := 33) dc_Mod_take_17 (by decide) (fun _ => k) (fun z => absurd z c1_17)) ?_
  refine sh_mp (fun w Z k => sh_iload dc_Mod_take_33 rfl k) ?_
  refine sh_mp (fun w Z k => sh_iconst (v := 5) dc_Mod_take_35 (by decide) k) ?_
  refine sh_mp (fun w Z k => sh_icmp_ne (tgt := 61) dc_Mod_take_36 (by decide) (fun z => absurd c2_36 z) (fun _ => k)) ?_
  refine sh_mp (fun w Z k => sh_iload_n dc_Mod_take_39 rfl rfl k) ?_
  refine sh_mp (fun w Z k => sh_if_ne (tgt := 61) dc_Mod_take_40 (by decide) (fun z => absurd c3_40 z) (fun _ => k)) ?_
  refine sh_mp (fun w Z k => sh_aload_n dc_Mod_take_43 rfl rfl k) ?_
  refine sh_mget 17 dc_Mod_take_44 (by decide) fl_Mod_57 rfl rfl rfl rfl ?_
  refine sh_mp (fun w Z k => sh_bipush (v := 6) dc_Mod_take_47 (by decide) k) ?_
  refine sh_mp (fun w Z k => sh_iload_n dc_Mod_take_49 rfl rfl k) ?_
  refine sh_mp (fun w Z k => sh_imul dc_Mod_take_50 k) ?_
  refine sh_mp (fun w Z k => sh_iload_n dc_Mod_take_51 rfl rfl k) ?_
  refine sh_mp (fun w Z k => sh_iadd dc_Mod_take_52 k) ?_
  refine sh_mp (fun w Z k => sh_dup2 dc_Mod_take_53 rfl rfl k) ?_
  refine sh_miald 17 (l := 48) (k := (6 * s) + t) dc_Mod_take_54 (by decide) (sh_nadd (sh_nmul rfl rfl) rfl) (by omega) (by decide) ?_
  refine sh_mp (fun w Z k => sh_iconst (v := 1) dc_Mod_take_55 (by decide) k) ?_
  refine sh_mp (fun w Z k => sh_iadd dc_Mod_take_56 k) ?_
  refine sh_miast 17 (l := 48) (k := (6 * s) + t) dc_Mod_take_57 (by decide) (sh_nadd (sh_nmul rfl rfl) rfl) (by omega) (by decide) ?_
  refine sh_mp (fun w Z k => sh_goto_ (tgt := 84) dc_Mod_take_58 (by decide) k) ?_
  exact sh_me (fun w => sh_return dc_Mod_take_84 rfl (by decide) (by decide))
theorem mt_Mod_take_7 {mq : Nat} {A : Nat → Nat} {I : sh_II} {D : sh_DD} {t : Nat} {s : Nat} {m : Int32} (ht : t < 6) (hs : s < 8) (c0_11 : ¬ (I 12 s) = 2) (c1_17 : (I 12 s) = 3) : sh_mM mq A md_Mod_take [.ref mq, .int (nI t), .int (nI s), .int m] I D none (sh_u2 I 15 s ((I 15 s) - 1)) D := by
  refine sh_mp (fun w Z k => sh_aload_n dc_Mod_take_0 rfl rfl k) ?_
  refine sh_mget 12 dc_Mod_take_1 (by decide) fl_Mod_42 rfl rfl rfl rfl ?_
  refine sh_mp (fun w Z k => sh_iload_n dc_Mod_take_4 rfl rfl k) ?_
  refine sh_miald 12 (l := 8) (k := s) dc_Mod_take_5 (by decide) rfl (by omega) (by decide) ?_
  refine sh_mp (fun w Z k => sh_istore dc_Mod_take_6 (by decide) k) ?_
  refine sh_mp (fun w Z k => sh_iload dc_Mod_take_8 rfl k) ?_
  refine sh_mp (fun w Z k => sh_iconst (v := 2) dc_Mod_take_10 (by decide) k) ?_
  refine sh_mp (fun w Z k => sh_icmp_eq (tgt := 20) dc_Mod_take_11 (by decide) (fun z => absurd z c0_11) (fun _ => k)) ?_
  refine sh_mp (fun w Z k => sh_iload dc_Mod_take_14 rfl k) ?_
  refine sh_mp (fun w Z k => sh_iconst (v := 3) dc_Mod_take_16 (by decide) k) ?_
  refine sh_mp (fun w Z k => sh_icmp_ne (tgt := 33) dc_Mod_take_17 (by decide) (fun z => absurd c1_17 z) (fun _ => k)) ?_
  refine sh_mp (fun w Z k => sh_aload_n dc_Mod_take_20 rfl rfl k) ?_
  refine sh_mget 15 dc_Mod_take_21 (by decide) fl_Mod_51 rfl rfl rfl rfl ?_
  refine sh_mp (fun w Z k => sh_iload_n dc_Mod_take_24 rfl rfl k) ?_
  refine sh_mp (fun w Z k => sh_dup2 dc_Mod_take_25 rfl rfl k) ?_
  refine sh_miald 15 (l := 8) (k := s) dc_Mod_take_26 (by decide) rfl (by omega) (by decide) ?_
  refine sh_mp (fun w Z k => sh_iconst (v := 1) dc_Mod_take_27 (by decide) k) ?_
  refine sh_mp (fun w Z k => sh_isub dc_Mod_take_28 k) ?_
  refine sh_miast 15 (l := 8) (k := s) dc_Mod_take_29 (by decide) rfl (by omega) (by decide) ?_
  refine sh_mp (fun w Z k => sh_goto_ (tgt := 84) dc_Mod_take_30 (by decide) k) ?_
  exact sh_me (fun w => sh_return dc_Mod_take_84 rfl (by decide) (by decide))
theorem mt_Mod_enter_1 {mq : Nat} {A : Nat → Nat} {I : sh_II} {D : sh_DD} {t : Nat} {s : Nat} {c : Nat} (ht : t < 6) (hs : s < 8) (hc : c < 6) (ec : I 19 s = nI c) : sh_mM mq A md_Mod_enter [.ref mq, .int (nI t), .int (nI s)] I D none (sh_u2 (sh_u2 (sh_u2 (sh_u2 I 18 ((6 * s) + c) (nI t)) 19 s ((I 19 s) + 1)) 5 t (nI s)) 1 t 1) (sh_u2 D 8 t (D 11 0)) := by
  refine sh_mp (fun w Z k => sh_aload_n dc_Mod_enter_0 rfl rfl k) ?_
  refine sh_mget 18 dc_Mod_enter_1 (by decide) fl_Mod_60 rfl rfl rfl rfl ?_
  refine sh_mp (fun w Z k => sh_bipush (v := 6) dc_Mod_enter_4 (by decide) k) ?_
  refine sh_mp (fun w Z k => sh_iload_n dc_Mod_enter_6 rfl rfl k) ?_
  refine sh_mp (fun w Z k => sh_imul dc_Mod_enter_7 k) ?_
  refine sh_mp (fun w Z k => sh_aload_n dc_Mod_enter_8 rfl rfl k) ?_
  refine sh_mget 19 dc_Mod_enter_9 (by decide) fl_Mod_63 rfl rfl rfl rfl ?_
  refine sh_mp (fun w Z k => sh_iload_n dc_Mod_enter_12 rfl rfl k) ?_
  refine sh_miald 19 (l := 8) (k := s) dc_Mod_enter_13 (by decide) rfl (by omega) (by decide) ?_
  refine sh_mp (fun w Z k => sh_iadd dc_Mod_enter_14 k) ?_
  refine sh_mp (fun w Z k => sh_iload_n dc_Mod_enter_15 rfl rfl k) ?_
  refine sh_miast 18 (l := 48) (k := (6 * s) + c) dc_Mod_enter_16 (by decide) (sh_nadd (sh_nmul rfl rfl) ec) (by omega) (by decide) ?_
  refine sh_mp (fun w Z k => sh_aload_n dc_Mod_enter_17 rfl rfl k) ?_
  refine sh_mget 19 dc_Mod_enter_18 (by decide) fl_Mod_63 rfl rfl rfl rfl ?_
  refine sh_mp (fun w Z k => sh_iload_n dc_Mod_enter_21 rfl rfl k) ?_
  refine sh_mp (fun w Z k => sh_dup2 dc_Mod_enter_22 rfl rfl k) ?_
  refine sh_miald 19 (l := 8) (k := s) dc_Mod_enter_23 (by decide) rfl (by omega) (by decide) ?_
  refine sh_mti (show ((sh_u2 I 18 ((6 * s) + c) (nI t))) 19 s = I 19 s from (sh_u2_row (by decide) _)) ?_
  refine sh_mp (fun w Z k => sh_iconst (v := 1) dc_Mod_enter_24 (by decide) k) ?_
  refine sh_mp (fun w Z k => sh_iadd dc_Mod_enter_25 k) ?_
  refine sh_miast 19 (l := 8) (k := s) dc_Mod_enter_26 (by decide) rfl (by omega) (by decide) ?_
  refine sh_mp (fun w Z k => sh_aload_n dc_Mod_enter_27 rfl rfl k) ?_
  refine sh_mget 5 dc_Mod_enter_28 (by decide) fl_Mod_24 rfl rfl rfl rfl ?_
  refine sh_mp (fun w Z k => sh_iload_n dc_Mod_enter_31 rfl rfl k) ?_
  refine sh_mp (fun w Z k => sh_iload_n dc_Mod_enter_32 rfl rfl k) ?_
  refine sh_miast 5 (l := 6) (k := t) dc_Mod_enter_33 (by decide) rfl (by omega) (by decide) ?_
  refine sh_mp (fun w Z k => sh_aload_n dc_Mod_enter_34 rfl rfl k) ?_
  refine sh_mget 8 dc_Mod_enter_35 (by decide) fl_Mod_33 rfl rfl rfl rfl ?_
  refine sh_mp (fun w Z k => sh_iload_n dc_Mod_enter_38 rfl rfl k) ?_
  refine sh_mp (fun w Z k => sh_aload_n dc_Mod_enter_39 rfl rfl k) ?_
  refine sh_mget 11 dc_Mod_enter_40 (by decide) fl_Mod_94 rfl rfl rfl rfl ?_
  refine sh_mdast 8 (l := 6) (k := t) dc_Mod_enter_43 (by decide) rfl (by omega) (by decide) ?_
  refine sh_mp (fun w Z k => sh_aload_n dc_Mod_enter_44 rfl rfl k) ?_
  refine sh_mget 1 dc_Mod_enter_45 (by decide) fl_Mod_7 rfl rfl rfl rfl ?_
  refine sh_mp (fun w Z k => sh_iload_n dc_Mod_enter_48 rfl rfl k) ?_
  refine sh_mp (fun w Z k => sh_iconst (v := 1) dc_Mod_enter_49 (by decide) k) ?_
  refine sh_mzast 1 (l := 6) (k := t) dc_Mod_enter_50 (by decide) rfl (by omega) (by decide) (by decide) ?_
  exact sh_me (fun w => sh_return dc_Mod_enter_51 rfl (by decide) (by decide))
theorem mt_Mod_addWaited_1 {mq : Nat} {A : Nat → Nat} {I : sh_II} {D : sh_DD} {t : Nat} {s : Nat} (ht : t < 6) (hs : s < 8) (v0_17 : vf_n64 (FP.dsub (D 11 0) (D 8 t))) (v1_18 : vf_n64 (FP.dadd (D 20 s) (FP.dsub (D 11 0) (D 8 t)))) : sh_mM mq A md_Mod_addWaited [.ref mq, .int (nI t), .int (nI s)] I D none (sh_u2 I 21 s ((I 21 s) + 1)) (sh_u2 D 20 s (FP.dadd (D 20 s) (FP.dsub (D 11 0) (D 8 t)))) := by
  refine sh_mp (fun w Z k => sh_aload_n dc_Mod_addWaited_0 rfl rfl k) ?_
  refine sh_mget 20 dc_Mod_addWaited_1 (by decide) fl_Mod_66 rfl rfl rfl rfl ?_
  refine sh_mp (fun w Z k => sh_iload_n dc_Mod_addWaited_4 rfl rfl k) ?_
  refine sh_mp (fun w Z k => sh_dup2 dc_Mod_addWaited_5 rfl rfl k) ?_
  refine sh_mdald 20 (l := 8) (k := s) dc_Mod_addWaited_6 (by decide) rfl (by omega) (by decide) ?_
  refine sh_mp (fun w Z k => sh_aload_n dc_Mod_addWaited_7 rfl rfl k) ?_
  refine sh_mget 11 dc_Mod_addWaited_8 (by decide) fl_Mod_94 rfl rfl rfl rfl ?_
  refine sh_mp (fun w Z k => sh_aload_n dc_Mod_addWaited_11 rfl rfl k) ?_
  refine sh_mget 8 dc_Mod_addWaited_12 (by decide) fl_Mod_33 rfl rfl rfl rfl ?_
  refine sh_mp (fun w Z k => sh_iload_n dc_Mod_addWaited_15 rfl rfl k) ?_
  refine sh_mdald 8 (l := 6) (k := t) dc_Mod_addWaited_16 (by decide) rfl (by omega) (by decide) ?_
  refine sh_mp (fun w Z k => sh_dsub dc_Mod_addWaited_17 v0_17 k) ?_
  refine sh_mp (fun w Z k => sh_dadd dc_Mod_addWaited_18 v1_18 k) ?_
  refine sh_mdast 20 (l := 8) (k := s) dc_Mod_addWaited_19 (by decide) rfl (by omega) (by decide) ?_
  refine sh_mp (fun w Z k => sh_aload_n dc_Mod_addWaited_20 rfl rfl k) ?_
  refine sh_mget 21 dc_Mod_addWaited_21 (by decide) fl_Mod_69 rfl rfl rfl rfl ?_
  refine sh_mp (fun w Z k => sh_iload_n dc_Mod_addWaited_24 rfl rfl k) ?_
  refine sh_mp (fun w Z k => sh_dup2 dc_Mod_addWaited_25 rfl rfl k) ?_
  refine sh_miald 21 (l := 8) (k := s) dc_Mod_addWaited_26 (by decide) rfl (by omega) (by decide) ?_
  refine sh_mp (fun w Z k => sh_iconst (v := 1) dc_Mod_addWaited_27 (by decide) k) ?_
  refine sh_mp (fun w Z k => sh_iadd dc_Mod_addWaited_28 k) ?_
  refine sh_miast 21 (l := 8) (k := s) dc_Mod_addWaited_29 (by decide) rfl (by omega) (by decide) ?_
  exact sh_me (fun w => sh_return dc_Mod_addWaited_30 rfl (by decide) (by decide))
theorem mt_Mod_time_1 {mq : Nat} {A : Nat → Nat} {I : sh_II} {D : sh_DD}  : sh_mM mq A md_Mod_time [.ref mq] I D (some (.double (D 11 0))) (sh_u2 I 0 0 0) D := by
  refine sh_mp (fun w Z k => sh_aload_n dc_Mod_time_0 rfl rfl k) ?_
  refine sh_mp (fun w Z k => sh_iconst (v := 0) dc_Mod_time_1 (by decide) k) ?_
  refine sh_mput 0 dc_Mod_time_2 (by decide) fl_Mod_78 rfl ?_
  refine sh_mp (fun w Z k => sh_aload_n dc_Mod_time_5 rfl rfl k) ?_
  refine sh_mget 11 dc_Mod_time_6 (by decide) fl_Mod_94 rfl rfl rfl rfl ?_
  exact sh_me (fun w => sh_dreturn dc_Mod_time_9 rfl (by decide) (by decide))
