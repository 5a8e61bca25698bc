theorem pt_Worker_isBlocked_1 {n : Nat} {h : sh_Hp} {q : Nat} {t : Int32} {pr : UInt64} {fl : Int32} {oc : Int32} {mo : Int32} {he : Int32} {en : UInt64} {si : UInt64} {dd : Int32} {od : Int32} {tb : Int32} (f_q : h q = some (false, 1, [.int t, .double pr, .int fl, .int oc, .null, .int mo, .int he, .double en, .double si, .int dd, .int od, .int tb])) : sh_M md_Worker_isBlocked [.ref q] (n, h) (.inl (some (.int 0), (n, h))) := by
  refine sh_aload_n dc_Worker_isBlocked_0 rfl rfl ?_
  refine sh_get (k := 4) dc_Worker_isBlocked_1 f_q rfl (by decide) fl_Worker_18 rfl ?_
  refine sh_ifnullN (tgt := 11) dc_Worker_isBlocked_4 (by decide) ?_
  refine sh_iconst (v := 0) dc_Worker_isBlocked_11 (by decide) ?_
  exact sh_ireturn dc_Worker_isBlocked_12 rfl rfl (by decide) (by decide)
theorem pt_Worker_isBlocked_2 {n : Nat} {h : sh_Hp} {q : Nat} {t : Int32} {pr : UInt64} {fl : Int32} {oc : Int32} {plq : Nat} {mo : Int32} {he : Int32} {en : UInt64} {si : UInt64} {dd : Int32} {od : Int32} {tb : Int32} (f_q : h q = some (false, 1, [.int t, .double pr, .int fl, .int oc, .ref plq, .int mo, .int he, .double en, .double si, .int dd, .int od, .int tb])) : sh_M md_Worker_isBlocked [.ref q] (n, h) (.inl (some (.int 1), (n, h))) := by
  refine sh_aload_n dc_Worker_isBlocked_0 rfl rfl ?_
  refine sh_get (k := 4) dc_Worker_isBlocked_1 f_q rfl (by decide) fl_Worker_18 rfl ?_
  refine sh_ifnull dc_Worker_isBlocked_4 ?_
  refine sh_iconst (v := 1) dc_Worker_isBlocked_7 (by decide) ?_
  refine sh_goto_ (tgt := 12) dc_Worker_isBlocked_8 (by decide) ?_
  exact sh_ireturn dc_Worker_isBlocked_12 rfl rfl (by decide) (by decide)
theorem pt_Worker_dropFlag_1 {n : Nat} {h : sh_Hp} {q : Nat} {t : Int32} {pr : UInt64} {fl : Int32} {oc : Int32} {pl : Option Nat} {mo : Int32} {he : Int32} {en : UInt64} {si : UInt64} {dd : Int32} {od : Int32} {tb : Int32} (f_q : h q = some (false, 1, [.int t, .double pr, .int fl, .int oc, va_rf pl, .int mo, .int he, .double en, .double si, .int dd, .int od, .int tb])) (v0_11 : narrow .boolean (.int fl) = .int fl) : sh_M md_Worker_dropFlag [.ref q] (n, h) (.inl (some (.int fl), (n, (sh_up h q (false, 1, [.int t, .double pr, .int 0, .int oc, va_rf pl, .int mo, .int he, .double en, .double si, .int dd, .int od, .int tb]))))) := by
  refine sh_aload_n dc_Worker_dropFlag_0 rfl rfl ?_
  refine sh_get (k := 2) dc_Worker_dropFlag_1 f_q rfl (by decide) fl_Worker_22 rfl ?_
  refine sh_istore_n dc_Worker_dropFlag_4 rfl (by decide) ?_
  refine sh_aload_n dc_Worker_dropFlag_5 rfl rfl ?_
  refine sh_iconst (v := 0) dc_Worker_dropFlag_6 (by decide) ?_
  refine sh_put (k := 2) dc_Worker_dropFlag_7 f_q rfl (by decide) fl_Worker_22 rfl pd_Z rfl rfl ?_
  show sh_V _ _ (n, (sh_up h q (false, 1, [.int t, .double pr, .int 0, .int oc, va_rf pl, .int mo, .int he, .double en, .double si, .int dd, .int od, .int tb]))) _ _ _
  have f_q_1 : (sh_up h q (false, 1, [.int t, .double pr, .int 0, .int oc, va_rf pl, .int mo, .int he, .double en, .double si, .int dd, .int od, .int tb])) q = some (false, 1, [.int t, .double pr, .int 0, .int oc, va_rf pl, .int mo, .int he, .double en, .double si, .int dd, .int od, .int tb]) := (sh_up_eq _ _ _)
  refine sh_iload_n dc_Worker_dropFlag_10 rfl rfl ?_
  exact sh_ireturn dc_Worker_dropFlag_11 rfl v0_11 (by decide) (by decide)
theorem pt_Worker_finish_1 {n : Nat} {h : sh_Hp} {q : Nat} {x : Int32} {t : Int32} {pr : UInt64} {fl : Int32} {oc : Int32} {pl : Option Nat} {mo : Int32} {he : Int32} {en : UInt64} {si : UInt64} {dd : Int32} {od : Int32} {tb : Int32} (f_q : h q = some (false, 1, [.int t, .double pr, .int fl, .int oc, va_rf pl, .int mo, .int he, .double en, .double si, .int dd, .int od, .int tb])) : sh_M md_Worker_finish [.ref q, .int x] (n, h) (.inl (some (.int x), (n, (sh_up h q (false, 1, [.int t, .double pr, .int fl, .int x, va_rf pl, .int mo, .int he, .double en, .double si, .int dd, .int od, .int 0]))))) := by
  refine sh_aload_n dc_Worker_finish_0 rfl rfl ?_
  refine sh_iload_n dc_Worker_finish_1 rfl rfl ?_
  refine sh_put (k := 3) dc_Worker_finish_2 f_q rfl (by decide) fl_Worker_15 rfl pd_I rfl rfl ?_
  show sh_V _ _ (n, (sh_up h q (false, 1, [.int t, .double pr, .int fl, .int x, va_rf pl, .int mo, .int he, .double en, .double si, .int dd, .int od, .int tb]))) _ _ _
  have f_q_1 : (sh_up h q (false, 1, [.int t, .double pr, .int fl, .int x, va_rf pl, .int mo, .int he, .double en, .double si, .int dd, .int od, .int tb])) q = some (false, 1, [.int t, .double pr, .int fl, .int x, va_rf pl, .int mo, .int he, .double en, .double si, .int dd, .int od, .int tb]) := (sh_up_eq _ _ _)
  refine sh_aload_n dc_Worker_finish_5 rfl rfl ?_
  refine sh_iconst (v := 0) dc_Worker_finish_6 (by decide) ?_
  refine sh_put (k := 11) dc_Worker_finish_7 f_q_1 rfl (by decide) fl_Worker_26 rfl pd_Z rfl rfl ?_
  refine sh_Vh (sh_up_up _ _ _ _) ?_
  show sh_V _ _ (n, (sh_up h q (false, 1, [.int t, .double pr, .int fl, .int x, va_rf pl, .int mo, .int he, .double en, .double si, .int dd, .int od, .int 0]))) _ _ _
  have f_q_2 : (sh_up h q (false, 1, [.int t, .double pr, .int fl, .int x, va_rf pl, .int mo, .int he, .double en, .double si, .int dd, .int od, .int 0])) q = some (false, 1, [.int t, .double pr, .int fl, .int x, va_rf pl, .int mo, .int he, .double en, .double si, .int dd, .int od, .int 0]) := (sh_up_eq _ _ _)
  refine sh_iload_n dc_Worker_finish_10 rfl rfl ?_
  exact sh_ireturn dc_Worker_finish_11 rfl rfl (by decide) (by decide)
theorem pt_Worker_setEnd_1 {n : Nat} {h : sh_Hp} {q : Nat} {a : UInt64} {b : UInt64} {t : Int32} {pr : UInt64} {fl : Int32} {oc : Int32} {pl : Option Nat} {mo : Int32} {he : Int32} {en : UInt64} {si : UInt64} {dd : Int32} {od : Int32} {tb : Int32} (f_q : h q = some (false, 1, [.int t, .double pr, .int fl, .int oc, va_rf pl, .int mo, .int he, .double en, .double si, .int dd, .int od, .int tb])) (c0_3 : (Op.cmpValue (FP.dcmp b FP.dconst0) .l) ≤ 0) : sh_M md_Worker_setEnd [.ref q, .double a, .double b] (n, h) (.inl (none, (n, h))) := by
  refine sh_dload_n dc_Worker_setEnd_0 rfl rfl ?_
  refine sh_dconst0 dc_Worker_setEnd_1 ?_
  refine sh_dcmp dc_Worker_setEnd_2 ?_
  refine sh_if_le (tgt := 18) dc_Worker_setEnd_3 (by decide) (fun _ => ?_) (fun z => absurd c0_3 z)
  exact sh_return dc_Worker_setEnd_18 rfl (by decide) (by decide)
theorem pt_Worker_setEnd_2 {n : Nat} {h : sh_Hp} {q : Nat} {a : UInt64} {b : UInt64} {t : Int32} {pr : UInt64} {fl : Int32} {oc : Int32} {pl : Option Nat} {mo : Int32} {he : Int32} {en : UInt64} {si : UInt64} {dd : Int32} {od : Int32} {tb : Int32} (f_q : h q = some (false, 1, [.int t, .double pr, .int fl, .int oc, va_rf pl, .int mo, .int he, .double en, .double si, .int dd, .int od, .int tb])) (c0_3 : ¬ (Op.cmpValue (FP.dcmp b FP.dconst0) .l) ≤ 0) (v1_14 : vf_n64 (FP.dadd a b)) : sh_M md_Worker_setEnd [.ref q, .double a, .double b] (n, h) (.inl (none, (n, (sh_up h q (false, 1, [.int t, .double pr, .int fl, .int oc, va_rf pl, .int mo, .int 1, .double (FP.dadd a b), .double si, .int dd, .int od, .int tb]))))) := by
  refine sh_dload_n dc_Worker_setEnd_0 rfl rfl ?_
  refine sh_dconst0 dc_Worker_setEnd_1 ?_
  refine sh_dcmp dc_Worker_setEnd_2 ?_
  refine sh_if_le (tgt := 18) dc_Worker_setEnd_3 (by decide) (fun z => absurd z c0_3) (fun _ => ?_)
  refine sh_aload_n dc_Worker_setEnd_6 rfl rfl ?_
  refine sh_iconst (v := 1) dc_Worker_setEnd_7 (by decide) ?_
  refine sh_put (k := 6) dc_Worker_setEnd_8 f_q rfl (by decide) fl_Worker_29 rfl pd_Z rfl rfl ?_
  show sh_V _ _ (n, (sh_up h q (false, 1, [.int t, .double pr, .int fl, .int oc, va_rf pl, .int mo, .int 1, .double en, .double si, .int dd, .int od, .int tb]))) _ _ _
  have f_q_1 : (sh_up h q (false, 1, [.int t, .double pr, .int fl, .int oc, va_rf pl, .int mo, .int 1, .double en, .double si, .int dd, .int od, .int tb])) q = some (false, 1, [.int t, .double pr, .int fl, .int oc, va_rf pl, .int mo, .int 1, .double en, .double si, .int dd, .int od, .int tb]) := (sh_up_eq _ _ _)
  refine sh_aload_n dc_Worker_setEnd_11 rfl rfl ?_
  refine sh_dload_n dc_Worker_setEnd_12 rfl rfl ?_
  refine sh_dload_n dc_Worker_setEnd_13 rfl rfl ?_
  refine sh_dadd dc_Worker_setEnd_14 v1_14 ?_
  refine sh_put (k := 7) dc_Worker_setEnd_15 f_q_1 rfl (by decide) fl_Worker_32 rfl pd_D rfl rfl ?_
  refine sh_Vh (sh_up_up _ _ _ _) ?_
  show sh_V _ _ (n, (sh_up h q (false, 1, [.int t, .double pr, .int fl, .int oc, va_rf pl, .int mo, .int 1, .double (FP.dadd a b), .double si, .int dd, .int od, .int tb]))) _ _ _
  have f_q_2 : (sh_up h q (false, 1, [.int t, .double pr, .int fl, .int oc, va_rf pl, .int mo, .int 1, .double (FP.dadd a b), .double si, .int dd, .int od, .int tb])) q = some (false, 1, [.int t, .double pr, .int fl, .int oc, va_rf pl, .int mo, .int 1, .double (FP.dadd a b), .double si, .int dd, .int od, .int tb]) := (sh_up_eq _ _ _)
  exact sh_return dc_Worker_setEnd_18 rfl (by decide) (by decide)
theorem pt_Waiters_size_1 {n : Nat} {h : sh_Hp} {q : Nat} {rw : Nat} {cn : Int32} (f_q : h q = some (false, 2, [.ref rw, .int cn])) : sh_M md_Waiters_size [.ref q] (n, h) (.inl (some (.int cn), (n, h))) := by
  refine sh_aload_n dc_Waiters_size_0 rfl rfl ?_
  refine sh_get (k := 1) dc_Waiters_size_1 f_q rfl (by decide) fl_Waiters_17 rfl ?_
  exact sh_ireturn dc_Waiters_size_4 rfl rfl (by decide) (by decide)
theorem pt_Waiters_at_1 {n : Nat} {h : sh_Hp} {q : Nat} {i : Int32} {rw : Nat} {cn : Int32} {rl : List Value} (f_q : h q = some (false, 2, [.ref rw, .int cn])) (f_rw : h rw = some (true, 4, rl)) (c0_1 : i < 0) : sh_M md_Waiters_at [.ref q, .int i] (n, h) (.inl (some (.null), (n, h))) := by
  refine sh_iload_n dc_Waiters_at_0 rfl rfl ?_
  refine sh_if_lt (tgt := 21) dc_Waiters_at_1 (by decide) (fun _ => ?_) (fun z => absurd c0_1 z)
  refine sh_anull dc_Waiters_at_21 ?_
  exact sh_areturn (v := none) dc_Waiters_at_22 rfl (by decide) (by decide)
theorem pt_Waiters_at_2 {n : Nat} {h : sh_Hp} {q : Nat} {i : Int32} {rw : Nat} {cn : Int32} {rl : List Value} (f_q : h q = some (false, 2, [.ref rw, .int cn])) (f_rw : h rw = some (true, 4, rl)) (c0_1 : ¬ i < 0) (c1_9 : cn ≤ i) : sh_M md_Waiters_at [.ref q, .int i] (n, h) (.inl (some (.null), (n, h))) := by
  refine sh_iload_n dc_Waiters_at_0 rfl rfl ?_
  refine sh_if_lt (tgt := 21) dc_Waiters_at_1 (by decide) (fun z => absurd z c0_1) (fun _ => ?_)
  refine sh_iload_n dc_Waiters_at_4 rfl rfl ?_
  refine sh_aload_n dc_Waiters_at_5 rfl rfl ?_
  refine sh_get (k := 1) dc_Waiters_at_6 f_q rfl (by decide) fl_Waiters_17 rfl ?_
  refine sh_icmp_ge (tgt := 21) dc_Waiters_at_9 (by decide) (fun _ => ?_) (fun z => absurd c1_9 z)
  refine sh_anull dc_Waiters_at_21 ?_
  exact sh_areturn (v := none) dc_Waiters_at_22 rfl (by decide) (by decide)
theorem pt_Waiters_at_3 {n : Nat} {h : sh_Hp} {q : Nat} {i : Int32} {rw : Nat} {cn : Int32} {rl : List Value} {x17_0 : Nat} (f_q : h q = some (false, 2, [.ref rw, .int cn])) (f_rw : h rw = some (true, 4, rl)) (c0_1 : ¬ i < 0) (c1_9 : ¬ cn ≤ i) (v2_17 : rl[i.toNatClampNeg]? = some (.ref x17_0)) : sh_M md_Waiters_at [.ref q, .int i] (n, h) (.inl (some (.ref x17_0), (n, h))) := by
  refine sh_iload_n dc_Waiters_at_0 rfl rfl ?_
  refine sh_if_lt (tgt := 21) dc_Waiters_at_1 (by decide) (fun z => absurd z c0_1) (fun _ => ?_)
  refine sh_iload_n dc_Waiters_at_4 rfl rfl ?_
  refine sh_aload_n dc_Waiters_at_5 rfl rfl ?_
  refine sh_get (k := 1) dc_Waiters_at_6 f_q rfl (by decide) fl_Waiters_17 rfl ?_
  refine sh_icmp_ge (tgt := 21) dc_Waiters_at_9 (by decide) (fun z => absurd z c1_9) (fun _ => ?_)
  refine sh_aload_n dc_Waiters_at_12 rfl rfl ?_
  refine sh_get (k := 0) dc_Waiters_at_13 f_q rfl (by decide) fl_Waiters_11 rfl ?_
  refine sh_iload_n dc_Waiters_at_16 rfl rfl ?_
  refine sh_aald dc_Waiters_at_17 f_rw rfl c0_1 v2_17 ?_
  refine sh_goto_ (tgt := 22) dc_Waiters_at_18 (by decide) ?_
  exact sh_areturn (v := (some x17_0)) dc_Waiters_at_22 rfl (by decide) (by decide)
theorem pt_Waiters_add_1 {n : Nat} {h : sh_Hp} {q : Nat} {u : Nat} {rw : Nat} {cn : Int32} {rl : List Value} {t : Int32} {pr : UInt64} {fl : Int32} {oc : Int32} {pl : Option Nat} {mo : Int32} {he : Int32} {en : UInt64} {si : UInt64} {dd : Int32} {od : Int32} {tb : Int32} (f_q : h q = some (false, 2, [.ref rw, .int cn])) (f_rw : h rw = some (true, 4, rl)) (f_u : h u = some (false, 1, [.int t, .double pr, .int fl, .int oc, va_rf pl, .int mo, .int he, .double en, .double si, .int dd, .int od, .int tb])) (c0_9 : (Int32.ofNat rl.length) ≤ cn) : sh_M md_Waiters_add [.ref q, .ref u] (n, h) (.inl (none, (n, h))) := by
  refine sh_aload_n dc_Waiters_add_0 rfl rfl ?_
  refine sh_get (k := 1) dc_Waiters_add_1 f_q rfl (by decide) fl_Waiters_17 rfl ?_
  refine sh_aload_n dc_Waiters_add_4 rfl rfl ?_
  refine sh_get (k := 0) dc_Waiters_add_5 f_q rfl (by decide) fl_Waiters_11 rfl ?_
  refine sh_alen dc_Waiters_add_8 f_rw rfl ?_
  refine sh_icmp_ge (tgt := 32) dc_Waiters_add_9 (by decide) (fun _ => ?_) (fun z => absurd c0_9 z)
  exact sh_return dc_Waiters_add_32 rfl (by decide) (by decide)
theorem pt_Waiters_add_2 {n : Nat} {h : sh_Hp} {q : Nat} {u : Nat} {rw : Nat} {cn : Int32} {rl : List Value} {t : Int32} {pr : UInt64} {fl : Int32} {oc : Int32} {pl : Option Nat} {mo : Int32} {he : Int32} {en : UInt64} {si : UInt64} {dd : Int32} {od : Int32} {tb : Int32} {w21 : Value} (f_q : h q = some (false, 2, [.ref rw, .int cn])) (f_rw : h rw = some (true, 4, rl)) (f_u : h u = some (false, 1, [.int t, .double pr, .int fl, .int oc, va_rf pl, .int mo, .int he, .double en, .double si, .int dd, .int od, .int tb])) (n_q_rw : q ≠ rw) (n_rw_q : rw ≠ q) (n_u_q : u ≠ q) (n_u_rw : u ≠ rw) (c0_9 : ¬ (Int32.ofNat rl.length) ≤ cn) (v1_21 : ¬ cn < 0) (v2_21 : rl[cn.toNatClampNeg]? = some w21) : sh_M md_Waiters_add [.ref q, .ref u] (n, h) (.inl (none, (n, (sh_up (sh_up h rw (true, 4, (rl.set cn.toNatClampNeg (.ref u)))) q (false, 2, [.ref rw, .int (cn + 1)]))))) := by
  refine sh_aload_n dc_Waiters_add_0 rfl rfl ?_
  refine sh_get (k := 1) dc_Waiters_add_1 f_q rfl (by decide) fl_Waiters_17 rfl ?_
  refine sh_aload_n dc_Waiters_add_4 rfl rfl ?_
  refine sh_get (k := 0) dc_Waiters_add_5 f_q rfl (by decide) fl_Waiters_11 rfl ?_
  refine sh_alen dc_Waiters_add_8 f_rw rfl ?_
  refine sh_icmp_ge (tgt := 32) dc_Waiters_add_9 (by decide) (fun z => absurd z c0_9) (fun _ => ?_)
  refine sh_aload_n dc_Waiters_add_12 rfl rfl ?_
  refine sh_get (k := 0) dc_Waiters_add_13 f_q rfl (by decide) fl_Waiters_11 rfl ?_
  refine sh_aload_n dc_Waiters_add_16 rfl rfl ?_
  refine sh_get (k := 1) dc_Waiters_add_17 f_q rfl (by decide) fl_Waiters_17 rfl ?_
  refine sh_aload_n dc_Waiters_add_20 rfl rfl ?_
  refine sh_aast dc_Waiters_add_21 f_rw rfl v1_21 v2_21 f_u rfl (Or.inl rfl) ?_
  show sh_V _ _ (n, (sh_up h rw (true, 4, (rl.set cn.toNatClampNeg (.ref u))))) _ _ _
  have f_q_1 : (sh_up h rw (true, 4, (rl.set cn.toNatClampNeg (.ref u)))) q = some (false, 2, [.ref rw, .int cn]) := ((sh_up_ne n_q_rw).trans f_q)
  have f_rw_1 : (sh_up h rw (true, 4, (rl.set cn.toNatClampNeg (.ref u)))) rw = some (true, 4, (rl.set cn.toNatClampNeg (.ref u))) := (sh_up_eq _ _ _)
  have f_u_1 : (sh_up h rw (true, 4, (rl.set cn.toNatClampNeg (.ref u)))) u = some (false, 1, [.int t, .double pr, .int fl, .int oc, va_rf pl, .int mo, .int he, .double en, .double si, .int dd, .int od, .int tb]) := ((sh_up_ne n_u_rw).trans f_u)
  refine sh_aload_n dc_Waiters_add_22 rfl rfl ?_
  refine sh_dup dc_Waiters_add_23 rfl ?_
  refine sh_get (k := 1) dc_Waiters_add_24 f_q_1 rfl (by decide) fl_Waiters_17 rfl ?_
  refine sh_iconst (v := 1) dc_Waiters_add_27 (by decide) ?_
  refine sh_iadd dc_Waiters_add_28 ?_
  refine sh_put (k := 1) dc_Waiters_add_29 f_q_1 rfl (by decide) fl_Waiters_17 rfl pd_I rfl rfl ?_
  show sh_V _ _ (n, (sh_up (sh_up h rw (true, 4, (rl.set cn.toNatClampNeg (.ref u)))) q (false, 2, [.ref rw, .int (cn + 1)]))) _ _ _
  have f_q_2 : (sh_up (sh_up h rw (true, 4, (rl.set cn.toNatClampNeg (.ref u)))) q (false, 2, [.ref rw, .int (cn + 1)])) q = some (false, 2, [.ref rw, .int (cn + 1)]) := (sh_up_eq _ _ _)
  have f_rw_2 : (sh_up (sh_up h rw (true, 4, (rl.set cn.toNatClampNeg (.ref u)))) q (false, 2, [.ref rw, .int (cn + 1)])) rw = some (true, 4, (rl.set cn.toNatClampNeg (.ref u))) := ((sh_up_ne n_rw_q).trans (sh_up_eq _ _ _))
  have f_u_2 : (sh_up (sh_up h rw (true, 4, (rl.set cn.toNatClampNeg (.ref u)))) q (false, 2, [.ref rw, .int (cn + 1)])) u = some (false, 1, [.int t, .double pr, .int fl, .int oc, va_rf pl, .int mo, .int he, .double en, .double si, .int dd, .int od, .int tb]) := ((sh_up_ne n_u_q).trans ((sh_up_ne n_u_rw).trans f_u))
  exact sh_return dc_Waiters_add_32 rfl (by decide) (by decide)
theorem pt_Hall_checkNumber_1 {n : Nat} {h : sh_Hp} {x : Int32} {lo : Int32} {hi : Int32} (c0_2 : x < lo) : sh_M md_Hall_checkNumber [.int x, .int lo, .int hi] (n, h) (.inr (1, h)) := by
  refine sh_iload_n dc_Hall_checkNumber_0 rfl rfl ?_
  refine sh_iload_n dc_Hall_checkNumber_1 rfl rfl ?_
  refine sh_icmp_lt (tgt := 10) dc_Hall_checkNumber_2 (by decide) (fun _ => ?_) (fun z => absurd c0_2 z)
  exact sh_thr (lx := 2) (tx := "a number out of range") dc_Hall_checkNumber_10 dc_Hall_checkNumber_13 (Or.inl ⟨dc_Hall_checkNumber_14, rfl⟩) dc_Hall_checkNumber_16 dc_Hall_checkNumber_19 lx_Hall_227_231 (by decide +kernel) rfl (by decide) (by decide) (by decide) (by decide)
theorem pt_Hall_checkNumber_2 {n : Nat} {h : sh_Hp} {x : Int32} {lo : Int32} {hi : Int32} (c0_2 : ¬ x < lo) (c1_7 : x ≤ hi) : sh_M md_Hall_checkNumber [.int x, .int lo, .int hi] (n, h) (.inl (none, (n, h))) := by
  refine sh_iload_n dc_Hall_checkNumber_0 rfl rfl ?_
  refine sh_iload_n dc_Hall_checkNumber_1 rfl rfl ?_
  refine sh_icmp_lt (tgt := 10) dc_Hall_checkNumber_2 (by decide) (fun z => absurd z c0_2) (fun _ => ?_)
  refine sh_iload_n dc_Hall_checkNumber_5 rfl rfl ?_
  refine sh_iload_n dc_Hall_checkNumber_6 rfl rfl ?_
  refine sh_icmp_le (tgt := 20) dc_Hall_checkNumber_7 (by decide) (fun _ => ?_) (fun z => absurd c1_7 z)
  exact sh_return dc_Hall_checkNumber_20 rfl (by decide) (by decide)
theorem pt_Hall_checkNumber_3 {n : Nat} {h : sh_Hp} {x : Int32} {lo : Int32} {hi : Int32} (c0_2 : ¬ x < lo) (c1_7 : ¬ x ≤ hi) : sh_M md_Hall_checkNumber [.int x, .int lo, .int hi] (n, h) (.inr (1, h)) := by
  refine sh_iload_n dc_Hall_checkNumber_0 rfl rfl ?_
  refine sh_iload_n dc_Hall_checkNumber_1 rfl rfl ?_
  refine sh_icmp_lt (tgt := 10) dc_Hall_checkNumber_2 (by decide) (fun z => absurd z c0_2) (fun _ => ?_)
  refine sh_iload_n dc_Hall_checkNumber_5 rfl rfl ?_
  refine sh_iload_n dc_Hall_checkNumber_6 rfl rfl ?_
  refine sh_icmp_le (tgt := 20) dc_Hall_checkNumber_7 (by decide) (fun z => absurd z c1_7) (fun _ => ?_)
  exact sh_thr (lx := 2) (tx := "a number out of range") dc_Hall_checkNumber_10 dc_Hall_checkNumber_13 (Or.inl ⟨dc_Hall_checkNumber_14, rfl⟩) dc_Hall_checkNumber_16 dc_Hall_checkNumber_19 lx_Hall_227_231 (by decide +kernel) rfl (by decide) (by decide) (by decide) (by decide)
theorem pt_Hall_checkAmount_1 {n : Nat} {h : sh_Hp} {x : UInt64} {lo : Int32} {hi : Int32} (c0_4 : (Op.cmpValue (FP.dcmp x (FP.i2d lo)) .l) < 0) : sh_M md_Hall_checkAmount [.double x, .int lo, .int hi] (n, h) (.inr (1, h)) := by
  refine sh_dload_n dc_Hall_checkAmount_0 rfl rfl ?_
  refine sh_iload_n dc_Hall_checkAmount_1 rfl rfl ?_
  refine sh_i2d dc_Hall_checkAmount_2 ?_
  refine sh_dcmp dc_Hall_checkAmount_3 ?_
  refine sh_if_lt (tgt := 14) dc_Hall_checkAmount_4 (by decide) (fun _ => ?_) (fun z => absurd c0_4 z)
  exact sh_thr (lx := 2) (tx := "an amount out of range") dc_Hall_checkAmount_14 dc_Hall_checkAmount_17 (Or.inl ⟨dc_Hall_checkAmount_18, rfl⟩) dc_Hall_checkAmount_20 dc_Hall_checkAmount_23 lx_Hall_227_231 (by decide +kernel) rfl (by decide) (by decide) (by decide) (by decide)
theorem pt_Hall_checkAmount_2 {n : Nat} {h : sh_Hp} {x : UInt64} {lo : Int32} {hi : Int32} (c0_4 : ¬ (Op.cmpValue (FP.dcmp x (FP.i2d lo)) .l) < 0) (c1_11 : (Op.cmpValue (FP.dcmp x (FP.i2d hi)) .g) ≤ 0) : sh_M md_Hall_checkAmount [.double x, .int lo, .int hi] (n, h) (.inl (none, (n, h))) := by
  refine sh_dload_n dc_Hall_checkAmount_0 rfl rfl ?_
  refine sh_iload_n dc_Hall_checkAmount_1 rfl rfl ?_
  refine sh_i2d dc_Hall_checkAmount_2 ?_
  refine sh_dcmp dc_Hall_checkAmount_3 ?_
  refine sh_if_lt (tgt := 14) dc_Hall_checkAmount_4 (by decide) (fun z => absurd z c0_4) (fun _ => ?_)
  refine sh_dload_n dc_Hall_checkAmount_7 rfl rfl ?_
  refine sh_iload_n dc_Hall_checkAmount_8 rfl rfl ?_
  refine sh_i2d dc_Hall_checkAmount_9 ?_
  refine sh_dcmp dc_Hall_checkAmount_10 ?_
  refine sh_if_le (tgt := 24) dc_Hall_checkAmount_11 (by decide) (fun _ => ?_) (fun z => absurd c1_11 z)
  exact sh_return dc_Hall_checkAmount_24 rfl (by decide) (by decide)
theorem pt_Hall_checkAmount_3 {n : Nat} {h : sh_Hp} {x : UInt64} {lo : Int32} {hi : Int32} (c0_4 : ¬ (Op.cmpValue (FP.dcmp x (FP.i2d lo)) .l) < 0) (c1_11 : ¬ (Op.cmpValue (FP.dcmp x (FP.i2d hi)) .g) ≤ 0) : sh_M md_Hall_checkAmount [.double x, .int lo, .int hi] (n, h) (.inr (1, h)) := by
  refine sh_dload_n dc_Hall_checkAmount_0 rfl rfl ?_
  refine sh_iload_n dc_Hall_checkAmount_1 rfl rfl ?_
  refine sh_i2d dc_Hall_checkAmount_2 ?_
  refine sh_dcmp dc_Hall_checkAmount_3 ?_
  refine sh_if_lt (tgt := 14) dc_Hall_checkAmount_4 (by decide) (fun z => absurd z c0_4) (fun _ => ?_)
  refine sh_dload_n dc_Hall_checkAmount_7 rfl rfl ?_
  refine sh_iload_n dc_Hall_checkAmount_8 rfl rfl ?_
  refine sh_i2d dc_Hall_checkAmount_9 ?_
  refine sh_dcmp dc_Hall_checkAmount_10 ?_
  refine sh_if_le (tgt := 24) dc_Hall_checkAmount_11 (by decide) (fun z => absurd z c1_11) (fun _ => ?_)
  exact sh_thr (lx := 2) (tx := "an amount out of range") dc_Hall_checkAmount_14 dc_Hall_checkAmount_17 (Or.inl ⟨dc_Hall_checkAmount_18, rfl⟩) dc_Hall_checkAmount_20 dc_Hall_checkAmount_23 lx_Hall_227_231 (by decide +kernel) rfl (by decide) (by decide) (by decide) (by decide)
theorem pt_Hall_checkRunning_1 {n : Nat} {h : sh_Hp} {q : Nat} {t : Int32} {pr : UInt64} {fl : Int32} {oc : Int32} {mo : Int32} {he : Int32} {en : UInt64} {si : UInt64} {dd : Int32} {od : Int32} {tb : Int32} (f_q : h q = some (false, 1, [.int t, .double pr, .int fl, .int oc, .null, .int mo, .int he, .double en, .double si, .int dd, .int od, .int tb])) : sh_M md_Hall_checkRunning [.ref q] (n, h) (.inl (none, (n, h))) := by
  refine sh_aload_n dc_Hall_checkRunning_0 rfl rfl ?_
  refine sh_callR (sh_virt (As := []) dc_Hall_checkRunning_1 lm_Worker_isBlocked ln_Hall_176 wd_467 wd_4 rfl rfl (Nat.le_of_ble_eq_true rfl) f_q rfl) (pt_Worker_isBlocked_1 f_q) ⟨(Nat.le_of_ble_eq_true rfl), (Nat.le_of_ble_eq_true rfl), (Nat.le_of_ble_eq_true rfl), (Nat.le_of_ble_eq_true rfl)⟩ ?_
  show sh_V _ (_, _, [.int 0]) (n, h) _ _ _
  refine sh_if_eq (tgt := 17) dc_Hall_checkRunning_4 (by decide) (fun _ => ?_) (fun z => absurd (by decide) z)
  exact sh_return dc_Hall_checkRunning_17 rfl (by decide) (by decide)
theorem pt_Hall_checkRunning_2 {n : Nat} {h : sh_Hp} {q : Nat} {t : Int32} {pr : UInt64} {fl : Int32} {oc : Int32} {plq : Nat} {mo : Int32} {he : Int32} {en : UInt64} {si : UInt64} {dd : Int32} {od : Int32} {tb : Int32} (f_q : h q = some (false, 1, [.int t, .double pr, .int fl, .int oc, .ref plq, .int mo, .int he, .double en, .double si, .int dd, .int od, .int tb])) : sh_M md_Hall_checkRunning [.ref q] (n, h) (.inr (3, h)) := by
  refine sh_aload_n dc_Hall_checkRunning_0 rfl rfl ?_
  refine sh_callR (sh_virt (As := []) dc_Hall_checkRunning_1 lm_Worker_isBlocked ln_Hall_176 wd_467 wd_4 rfl rfl (Nat.le_of_ble_eq_true rfl) f_q rfl) (pt_Worker_isBlocked_2 f_q) ⟨(Nat.le_of_ble_eq_true rfl), (Nat.le_of_ble_eq_true rfl), (Nat.le_of_ble_eq_true rfl), (Nat.le_of_ble_eq_true rfl)⟩ ?_
  show sh_V _ (_, _, [.int 1]) (n, h) _ _ _
  refine sh_if_eq (tgt := 17) dc_Hall_checkRunning_4 (by decide) (fun z => absurd z (by decide)) (fun _ => ?_)
  exact sh_thr (lx := 2) (tx := "the thread is blocked") dc_Hall_checkRunning_7 dc_Hall_checkRunning_10 (Or.inl ⟨dc_Hall_checkRunning_11, rfl⟩) dc_Hall_checkRunning_13 dc_Hall_checkRunning_16 lx_Hall_51_55 (by decide +kernel) rfl (by decide) (by decide) (by decide) (by decide)
theorem pt_Lock_isAgain_1 {n : Nat} {h : sh_Hp} {q : Nat} {u : Nat} {kd : Int32} {wt : Nat} {ws : UInt64} {wc : Int32} {ow : Option Nat} {dp : Int32} (f_q : h q = some (false, 4, [.int kd, .ref wt, .double ws, .int wc, va_rf ow, .int dp])) (c0_5 : ¬ kd = 1) : sh_M md_Lock_isAgain [.ref q, .ref u] (n, h) (.inl (some (.int 0), (n, h))) := by
  refine sh_aload_n dc_Lock_isAgain_0 rfl rfl ?_
  refine sh_get (k := 0) dc_Lock_isAgain_1 f_q rfl (by decide) fl_Lock_41 rfl ?_
  refine sh_iconst (v := 1) dc_Lock_isAgain_4 (by decide) ?_
  refine sh_icmp_ne (tgt := 20) dc_Lock_isAgain_5 (by decide) (fun _ => ?_) (fun z => absurd z c0_5)
  refine sh_iconst (v := 0) dc_Lock_isAgain_20 (by decide) ?_
  exact sh_ireturn dc_Lock_isAgain_21 rfl rfl (by decide) (by decide)
theorem pt_Lock_isAgain_2 {n : Nat} {h : sh_Hp} {q : Nat} {u : Nat} {kd : Int32} {wt : Nat} {ws : UInt64} {wc : Int32} {dp : Int32} (f_q : h q = some (false, 4, [.int kd, .ref wt, .double ws, .int wc, .null, .int dp])) (c0_5 : kd = 1) : sh_M md_Lock_isAgain [.ref q, .ref u] (n, h) (.inl (some (.int 0), (n, h))) := by
  refine sh_aload_n dc_Lock_isAgain_0 rfl rfl ?_
  refine sh_get (k := 0) dc_Lock_isAgain_1 f_q rfl (by decide) fl_Lock_41 rfl ?_
  refine sh_iconst (v := 1) dc_Lock_isAgain_4 (by decide) ?_
  refine sh_icmp_ne (tgt := 20) dc_Lock_isAgain_5 (by decide) (fun z => absurd c0_5 z) (fun _ => ?_)
  refine sh_aload_n dc_Lock_isAgain_8 rfl rfl ?_
  refine sh_get (k := 4) dc_Lock_isAgain_9 f_q rfl (by decide) fl_Lock_9 rfl ?_
  refine sh_aload_n dc_Lock_isAgain_12 rfl rfl ?_
  refine sh_acmp_ne (rx := none) (ry := (some u)) (tgt := 20) dc_Lock_isAgain_13 (by decide) (fun _ => ?_) (fun z => absurd z (fun z => by cases z))
  refine sh_iconst (v := 0) dc_Lock_isAgain_20 (by decide) ?_
  exact sh_ireturn dc_Lock_isAgain_21 rfl rfl (by decide) (by decide)
theorem pt_Lock_isAgain_3 {n : Nat} {h : sh_Hp} {q : Nat} {u : Nat} {kd : Int32} {wt : Nat} {ws : UInt64} {wc : Int32} {owq : Nat} {dp : Int32} (f_q : h q = some (false, 4, [.int kd, .ref wt, .double ws, .int wc, .ref owq, .int dp])) (c0_5 : kd = 1) (c1_13 : owq = u) : sh_M md_Lock_isAgain [.ref q, .ref u] (n, h) (.inl (some (.int 1), (n, h))) := by
  refine sh_aload_n dc_Lock_isAgain_0 rfl rfl ?_
  refine sh_get (k := 0) dc_Lock_isAgain_1 f_q rfl (by decide) fl_Lock_41 rfl ?_
  refine sh_iconst (v := 1) dc_Lock_isAgain_4 (by decide) ?_
  refine sh_icmp_ne (tgt := 20) dc_Lock_isAgain_5 (by decide) (fun z => absurd c0_5 z) (fun _ => ?_)
  refine sh_aload_n dc_Lock_isAgain_8 rfl rfl ?_
  refine sh_get (k := 4) dc_Lock_isAgain_9 f_q rfl (by decide) fl_Lock_9 rfl ?_
  refine sh_aload_n dc_Lock_isAgain_12 rfl rfl ?_
  refine sh_acmp_ne (rx := (some owq)) (ry := (some u)) (tgt := 20) dc_Lock_isAgain_13 (by decide) (fun z => absurd (congrArg some c1_13) z) (fun _ => ?_)
  refine sh_iconst (v := 1) dc_Lock_isAgain_16 (by decide) ?_
  refine sh_goto_ (tgt := 21) dc_Lock_isAgain_17 (by decide) ?_
  exact sh_ireturn dc_Lock_isAgain_21 rfl rfl (by decide) (by decide)
theorem pt_Lock_isAgain_4 {n : Nat} {h : sh_Hp} {q : Nat} {u : Nat} {kd : Int32} {wt : Nat} {ws : UInt64} {wc : Int32} {owq : Nat} {dp : Int32} (f_q : h q = some (false, 4, [.int kd, .ref wt, .double ws, .int wc, .ref owq, .int dp])) (c0_5 : kd = 1) (c1_13 : ¬ owq = u) : sh_M md_Lock_isAgain [.ref q, .ref u] (n, h) (.inl (some (.int 0), (n, h))) := by
  refine sh_aload_n dc_Lock_isAgain_0 rfl rfl ?_
  refine sh_get (k := 0) dc_Lock_isAgain_1 f_q rfl (by decide) fl_Lock_41 rfl ?_
  refine sh_iconst (v := 1) dc_Lock_isAgain_4 (by decide) ?_
  refine sh_icmp_ne (tgt := 20) dc_Lock_isAgain_5 (by decide) (fun z => absurd c0_5 z) (fun _ => ?_)
  refine sh_aload_n dc_Lock_isAgain_8 rfl rfl ?_
  refine sh_get (k := 4) dc_Lock_isAgain_9 f_q rfl (by decide) fl_Lock_9 rfl ?_
  refine sh_aload_n dc_Lock_isAgain_12 rfl rfl ?_
  refine sh_acmp_ne (rx := (some owq)) (ry := (some u)) (tgt := 20) dc_Lock_isAgain_13 (by decide) (fun _ => ?_) (fun z => absurd z (fun z => c1_13 (Option.some.inj z)))
  refine sh_iconst (v := 0) dc_Lock_isAgain_20 (by decide) ?_
  exact sh_ireturn dc_Lock_isAgain_21 rfl rfl (by decide) (by decide)
theorem pt_Lock_free_1 {n : Nat} {h : sh_Hp} {q : Nat} {kd : Int32} {wt : Nat} {ws : UInt64} {wc : Int32} {ow : Option Nat} {dp : Int32} (f_q : h q = some (false, 4, [.int kd, .ref wt, .double ws, .int wc, va_rf ow, .int dp])) : sh_M md_Lock_free [.ref q] (n, h) (.inl (none, (n, (sh_up h q (false, 4, [.int kd, .ref wt, .double ws, .int wc, .null, .int 0]))))) := by
  refine sh_aload_n dc_Lock_free_0 rfl rfl ?_
  refine sh_anull dc_Lock_free_1 ?_
  refine sh_put (k := 4) dc_Lock_free_2 f_q rfl (by decide) fl_Lock_9 rfl pd_LWorker rfl rfl ?_
  show sh_V _ _ (n, (sh_up h q (false, 4, [.int kd, .ref wt, .double ws, .int wc, .null, .int dp]))) _ _ _
  have f_q_1 : (sh_up h q (false, 4, [.int kd, .ref wt, .double ws, .int wc, .null, .int dp])) q = some (false, 4, [.int kd, .ref wt, .double ws, .int wc, .null, .int dp]) := (sh_up_eq _ _ _)
  refine sh_aload_n dc_Lock_free_5 rfl rfl ?_
  refine sh_iconst (v := 0) dc_Lock_free_6 (by decide) ?_
  refine sh_put (k := 5) dc_Lock_free_7 f_q_1 rfl (by decide) fl_Lock_29 rfl pd_I rfl rfl ?_
  refine sh_Vh (sh_up_up _ _ _ _) ?_
  show sh_V _ _ (n, (sh_up h q (false, 4, [.int kd, .ref wt, .double ws, .int wc, .null, .int 0]))) _ _ _
  have f_q_2 : (sh_up h q (false, 4, [.int kd, .ref wt, .double ws, .int wc, .null, .int 0])) q = some (false, 4, [.int kd, .ref wt, .double ws, .int wc, .null, .int 0]) := (sh_up_eq _ _ _)
  exact sh_return dc_Lock_free_10 rfl (by decide) (by decide)
theorem pt_Lock_take_1 {n : Nat} {h : sh_Hp} {q : Nat} {u : Nat} {m : Int32} {s : Int32} {kd : Int32} {wt : Nat} {ws : UInt64} {wc : Int32} {ow : Option Nat} {dp : Int32} (f_q : h q = some (false, 4, [.int kd, .ref wt, .double ws, .int wc, va_rf ow, .int dp])) : sh_M md_Lock_take [.ref q, .ref u, .int m, .int s] (n, h) (.inl (none, (n, (sh_up h q (false, 4, [.int kd, .ref wt, .double ws, .int wc, .ref u, .int (dp + s)]))))) := by
  refine sh_aload_n dc_Lock_take_0 rfl rfl ?_
  refine sh_aload_n dc_Lock_take_1 rfl rfl ?_
  refine sh_put (k := 4) dc_Lock_take_2 f_q rfl (by decide) fl_Lock_9 rfl pd_LWorker rfl rfl ?_
  show sh_V _ _ (n, (sh_up h q (false, 4, [.int kd, .ref wt, .double ws, .int wc, .ref u, .int dp]))) _ _ _
  have f_q_1 : (sh_up h q (false, 4, [.int kd, .ref wt, .double ws, .int wc, .ref u, .int dp])) q = some (false, 4, [.int kd, .ref wt, .double ws, .int wc, .ref u, .int dp]) := (sh_up_eq _ _ _)
  refine sh_aload_n dc_Lock_take_5 rfl rfl ?_
  refine sh_dup dc_Lock_take_6 rfl ?_
  refine sh_get (k := 5) dc_Lock_take_7 f_q_1 rfl (by decide) fl_Lock_29 rfl ?_
  refine sh_iload_n dc_Lock_take_10 rfl rfl ?_
  refine sh_iadd dc_Lock_take_11 ?_
  refine sh_put (k := 5) dc_Lock_take_12 f_q_1 rfl (by decide) fl_Lock_29 rfl pd_I rfl rfl ?_
  refine sh_Vh (sh_up_up _ _ _ _) ?_
  show sh_V _ _ (n, (sh_up h q (false, 4, [.int kd, .ref wt, .double ws, .int wc, .ref u, .int (dp + s)]))) _ _ _
  have f_q_2 : (sh_up h q (false, 4, [.int kd, .ref wt, .double ws, .int wc, .ref u, .int (dp + s)])) q = some (false, 4, [.int kd, .ref wt, .double ws, .int wc, .ref u, .int (dp + s)]) := (sh_up_eq _ _ _)
  exact sh_return dc_Lock_take_15 rfl (by decide) (by decide)
theorem pt_Lock_holdOf_1 {n : Nat} {h : sh_Hp} {q : Nat} {u : Nat} {kd : Int32} {wt : Nat} {ws : UInt64} {wc : Int32} {dp : Int32} (f_q : h q = some (false, 4, [.int kd, .ref wt, .double ws, .int wc, .null, .int dp])) : sh_M md_Lock_holdOf [.ref q, .ref u] (n, h) (.inl (some (.int 0), (n, h))) := by
  refine sh_aload_n dc_Lock_holdOf_0 rfl rfl ?_
  refine sh_get (k := 4) dc_Lock_holdOf_1 f_q rfl (by decide) fl_Lock_9 rfl ?_
  refine sh_aload_n dc_Lock_holdOf_4 rfl rfl ?_
  refine sh_acmp_ne (rx := none) (ry := (some u)) (tgt := 15) dc_Lock_holdOf_5 (by decide) (fun _ => ?_) (fun z => absurd z (fun z => by cases z))
  refine sh_iconst (v := 0) dc_Lock_holdOf_15 (by decide) ?_
  exact sh_ireturn dc_Lock_holdOf_16 rfl rfl (by decide) (by decide)
theorem pt_Lock_holdOf_2 {n : Nat} {h : sh_Hp} {q : Nat} {u : Nat} {kd : Int32} {wt : Nat} {ws : UInt64} {wc : Int32} {owq : Nat} {dp : Int32} (f_q : h q = some (false, 4, [.int kd, .ref wt, .double ws, .int wc, .ref owq, .int dp])) (c0_5 : owq = u) : sh_M md_Lock_holdOf [.ref q, .ref u] (n, h) (.inl (some (.int dp), (n, h))) := by
  refine sh_aload_n dc_Lock_holdOf_0 rfl rfl ?_
  refine sh_get (k := 4) dc_Lock_holdOf_1 f_q rfl (by decide) fl_Lock_9 rfl ?_
  refine sh_aload_n dc_Lock_holdOf_4 rfl rfl ?_
  refine sh_acmp_ne (rx := (some owq)) (ry := (some u)) (tgt := 15) dc_Lock_holdOf_5 (by decide) (fun z => absurd (congrArg some c0_5) z) (fun _ => ?_)
  refine sh_aload_n dc_Lock_holdOf_8 rfl rfl ?_
  refine sh_get (k := 5) dc_Lock_holdOf_9 f_q rfl (by decide) fl_Lock_29 rfl ?_
  refine sh_goto_ (tgt := 16) dc_Lock_holdOf_12 (by decide) ?_
  exact sh_ireturn dc_Lock_holdOf_16 rfl rfl (by decide) (by decide)
theorem pt_Lock_holdOf_3 {n : Nat} {h : sh_Hp} {q : Nat} {u : Nat} {kd : Int32} {wt : Nat} {ws : UInt64} {wc : Int32} {owq : Nat} {dp : Int32} (f_q : h q = some (false, 4, [.int kd, .ref wt, .double ws, .int wc, .ref owq, .int dp])) (c0_5 : ¬ owq = u) : sh_M md_Lock_holdOf [.ref q, .ref u] (n, h) (.inl (some (.int 0), (n, h))) := by
  refine sh_aload_n dc_Lock_holdOf_0 rfl rfl ?_
  refine sh_get (k := 4) dc_Lock_holdOf_1 f_q rfl (by decide) fl_Lock_9 rfl ?_
  refine sh_aload_n dc_Lock_holdOf_4 rfl rfl ?_
  refine sh_acmp_ne (rx := (some owq)) (ry := (some u)) (tgt := 15) dc_Lock_holdOf_5 (by decide) (fun _ => ?_) (fun z => absurd z (fun z => c0_5 (Option.some.inj z)))
  refine sh_iconst (v := 0) dc_Lock_holdOf_15 (by decide) ?_
  exact sh_ireturn dc_Lock_holdOf_16 rfl rfl (by decide) (by decide)
theorem pt_Hall_checkOwner_1 {n : Nat} {h : sh_Hp} {u : Nat} {q : Nat} {kd : Int32} {wt : Nat} {ws : UInt64} {wc : Int32} {dp : Int32} (f_q : h q = some (false, 4, [.int kd, .ref wt, .double ws, .int wc, .null, .int dp])) : sh_M md_Hall_checkOwner [.ref u, .ref q] (n, h) (.inr (3, h)) := by
  refine sh_aload_n dc_Hall_checkOwner_0 rfl rfl ?_
  refine sh_get (k := 4) dc_Hall_checkOwner_1 f_q rfl (by decide) fl_Hall_254 rfl ?_
  refine sh_aload_n dc_Hall_checkOwner_4 rfl rfl ?_
  refine sh_acmp_eq (rx := none) (ry := (some u)) (tgt := 19) dc_Hall_checkOwner_5 (by decide) (fun z => absurd z (fun z => by cases z)) (fun _ => ?_)
  exact sh_thr (lx := 3) (tx := "the thread does not own the lock") dc_Hall_checkOwner_8 dc_Hall_checkOwner_11 (Or.inr ⟨dc_Hall_checkOwner_12, rfl⟩) dc_Hall_checkOwner_15 dc_Hall_checkOwner_18 lx_Hall_51_55 (by decide +kernel) rfl (by decide) (by decide) (by decide) (by decide)
theorem pt_Hall_checkOwner_2 {n : Nat} {h : sh_Hp} {u : Nat} {q : Nat} {kd : Int32} {wt : Nat} {ws : UInt64} {wc : Int32} {owq : Nat} {dp : Int32} (f_q : h q = some (false, 4, [.int kd, .ref wt, .double ws, .int wc, .ref owq, .int dp])) (c0_5 : owq = u) : sh_M md_Hall_checkOwner [.ref u, .ref q] (n, h) (.inl (none, (n, h))) := by
  refine sh_aload_n dc_Hall_checkOwner_0 rfl rfl ?_
  refine sh_get (k := 4) dc_Hall_checkOwner_1 f_q rfl (by decide) fl_Hall_254 rfl ?_
  refine sh_aload_n dc_Hall_checkOwner_4 rfl rfl ?_
  refine sh_acmp_eq (rx := (some owq)) (ry := (some u)) (tgt := 19) dc_Hall_checkOwner_5 (by decide) (fun _ => ?_) (fun z => absurd (congrArg some c0_5) z)
  exact sh_return dc_Hall_checkOwner_19 rfl (by decide) (by decide)
theorem pt_Hall_checkOwner_3 {n : Nat} {h : sh_Hp} {u : Nat} {q : Nat} {kd : Int32} {wt : Nat} {ws : UInt64} {wc : Int32} {owq : Nat} {dp : Int32} (f_q : h q = some (false, 4, [.int kd, .ref wt, .double ws, .int wc, .ref owq, .int dp])) (c0_5 : ¬ owq = u) : sh_M md_Hall_checkOwner [.ref u, .ref q] (n, h) (.inr (3, h)) := by
  refine sh_aload_n dc_Hall_checkOwner_0 rfl rfl ?_
  refine sh_get (k := 4) dc_Hall_checkOwner_1 f_q rfl (by decide) fl_Hall_254 rfl ?_
  refine sh_aload_n dc_Hall_checkOwner_4 rfl rfl ?_
  refine sh_acmp_eq (rx := (some owq)) (ry := (some u)) (tgt := 19) dc_Hall_checkOwner_5 (by decide) (fun z => absurd z (fun z => c0_5 (Option.some.inj z))) (fun _ => ?_)
  exact sh_thr (lx := 3) (tx := "the thread does not own the lock") dc_Hall_checkOwner_8 dc_Hall_checkOwner_11 (Or.inr ⟨dc_Hall_checkOwner_12, rfl⟩) dc_Hall_checkOwner_15 dc_Hall_checkOwner_18 lx_Hall_51_55 (by decide +kernel) rfl (by decide) (by decide) (by decide) (by decide)
theorem pt_Lock_canTake_1 {n : Nat} {h : sh_Hp} {q : Nat} {u : Nat} {m : Int32} {kd : Int32} {wt : Nat} {ws : UInt64} {wc : Int32} {dp : Int32} (f_q : h q = some (false, 4, [.int kd, .ref wt, .double ws, .int wc, .null, .int dp])) : sh_M md_Lock_canTake [.ref q, .ref u, .int m] (n, h) (.inl (some (.int 1), (n, h))) := by
  refine sh_aload_n dc_Lock_canTake_0 rfl rfl ?_
  refine sh_get (k := 4) dc_Lock_canTake_1 f_q rfl (by decide) fl_Lock_9 rfl ?_
  refine sh_ifnullN (tgt := 15) dc_Lock_canTake_4 (by decide) ?_
  refine sh_iconst (v := 1) dc_Lock_canTake_15 (by decide) ?_
  refine sh_goto_ (tgt := 20) dc_Lock_canTake_16 (by decide) ?_
  exact sh_ireturn dc_Lock_canTake_20 rfl rfl (by decide) (by decide)
theorem pt_Lock_canTake_2 {n : Nat} {h : sh_Hp} {q : Nat} {u : Nat} {m : Int32} {kd : Int32} {wt : Nat} {ws : UInt64} {wc : Int32} {owq : Nat} {dp : Int32} (f_q : h q = some (false, 4, [.int kd, .ref wt, .double ws, .int wc, .ref owq, .int dp])) (c0_9 : ¬ kd = 1) : sh_M md_Lock_canTake [.ref q, .ref u, .int m] (n, h) (.inl (some (.int 0), (n, h))) := by
  refine sh_aload_n dc_Lock_canTake_0 rfl rfl ?_
  refine sh_get (k := 4) dc_Lock_canTake_1 f_q rfl (by decide) fl_Lock_9 rfl ?_
  refine sh_ifnull dc_Lock_canTake_4 ?_
  refine sh_aload_n dc_Lock_canTake_7 rfl rfl ?_
  refine sh_aload_n dc_Lock_canTake_8 rfl rfl ?_
  refine sh_callR (sh_virt (As := [.ref u]) dc_Lock_canTake_9 lm_Lock_isAgain ln_Lock_15 wd_556 wd_13 rfl rfl (Nat.le_of_ble_eq_true rfl) f_q rfl) (pt_Lock_isAgain_1 (ow := some owq) f_q c0_9) ⟨(Nat.le_of_ble_eq_true rfl), (Nat.le_of_ble_eq_true rfl), (Nat.le_of_ble_eq_true rfl), (Nat.le_of_ble_eq_true rfl)⟩ ?_
  show sh_V _ (_, _, [.int 0]) (n, h) _ _ _
  refine sh_if_eq (tgt := 19) dc_Lock_canTake_12 (by decide) (fun _ => ?_) (fun z => absurd (by decide) z)
  refine sh_iconst (v := 0) dc_Lock_canTake_19 (by decide) ?_
  exact sh_ireturn dc_Lock_canTake_20 rfl rfl (by decide) (by decide)
theorem pt_Lock_canTake_3 {n : Nat} {h : sh_Hp} {q : Nat} {u : Nat} {m : Int32} {kd : Int32} {wt : Nat} {ws : UInt64} {wc : Int32} {owq : Nat} {dp : Int32} (f_q : h q = some (false, 4, [.int kd, .ref wt, .double ws, .int wc, .ref owq, .int dp])) (c0_9 : kd = 1) (c1_9 : owq = u) : sh_M md_Lock_canTake [.ref q, .ref u, .int m] (n, h) (.inl (some (.int 1), (n, h))) := by
  refine sh_aload_n dc_Lock_canTake_0 rfl rfl ?_
  refine sh_get (k := 4) dc_Lock_canTake_1 f_q rfl (by decide) fl_Lock_9 rfl ?_
  refine sh_ifnull dc_Lock_canTake_4 ?_
  refine sh_aload_n dc_Lock_canTake_7 rfl rfl ?_
  refine sh_aload_n dc_Lock_canTake_8 rfl rfl ?_
  refine sh_callR (sh_virt (As := [.ref u]) dc_Lock_canTake_9 lm_Lock_isAgain ln_Lock_15 wd_556 wd_13 rfl rfl (Nat.le_of_ble_eq_true rfl) f_q rfl) (pt_Lock_isAgain_3 f_q c0_9 c1_9) ⟨(Nat.le_of_ble_eq_true rfl), (Nat.le_of_ble_eq_true rfl), (Nat.le_of_ble_eq_true rfl), (Nat.le_of_ble_eq_true rfl)⟩ ?_
  show sh_V _ (_, _, [.int 1]) (n, h) _ _ _
  refine sh_if_eq (tgt := 19) dc_Lock_canTake_12 (by decide) (fun z => absurd z (by decide)) (fun _ => ?_)
  refine sh_iconst (v := 1) dc_Lock_canTake_15 (by decide) ?_
  refine sh_goto_ (tgt := 20) dc_Lock_canTake_16 (by decide) ?_
  exact sh_ireturn dc_Lock_canTake_20 rfl rfl (by decide) (by decide)
theorem pt_Lock_canTake_4 {n : Nat} {h : sh_Hp} {q : Nat} {u : Nat} {m : Int32} {kd : Int32} {wt : Nat} {ws : UInt64} {wc : Int32} {owq : Nat} {dp : Int32} (f_q : h q = some (false, 4, [.int kd, .ref wt, .double ws, .int wc, .ref owq, .int dp])) (c0_9 : kd = 1) (c1_9 : ¬ owq = u) : sh_M md_Lock_canTake [.ref q, .ref u, .int m] (n, h) (.inl (some (.int 0), (n, h))) := by
  refine sh_aload_n dc_Lock_canTake_0 rfl rfl ?_
  refine sh_get (k := 4) dc_Lock_canTake_1 f_q rfl (by decide) fl_Lock_9 rfl ?_
  refine sh_ifnull dc_Lock_canTake_4 ?_
  refine sh_aload_n dc_Lock_canTake_7 rfl rfl ?_
  refine sh_aload_n dc_Lock_canTake_8 rfl rfl ?_
  refine sh_callR (sh_virt (As := [.ref u]) dc_Lock_canTake_9 lm_Lock_isAgain ln_Lock_15 wd_556 wd_13 rfl rfl (Nat.le_of_ble_eq_true rfl) f_q rfl) (pt_Lock_isAgain_4 f_q c0_9 c1_9) ⟨(Nat.le_of_ble_eq_true rfl), (Nat.le_of_ble_eq_true rfl), (Nat.le_of_ble_eq_true rfl), (Nat.le_of_ble_eq_true rfl)⟩ ?_
  show sh_V _ (_, _, [.int 0]) (n, h) _ _ _
  refine sh_if_eq (tgt := 19) dc_Lock_canTake_12 (by decide) (fun _ => ?_) (fun z => absurd (by decide) z)
  refine sh_iconst (v := 0) dc_Lock_canTake_19 (by decide) ?_
  exact sh_ireturn dc_Lock_canTake_20 rfl rfl (by decide) (by decide)
theorem pt_Lock_mustQueue_1 {n : Nat} {h : sh_Hp} {q : Nat} {u : Nat} {m : Int32} {kd : Int32} {wt : Nat} {ws : UInt64} {wc : Int32} {ow : Option Nat} {dp : Int32} {rw : Nat} {cn : Int32} (f_q : h q = some (false, 4, [.int kd, .ref wt, .double ws, .int wc, va_rf ow, .int dp])) (f_wt : h wt = some (false, 2, [.ref rw, .int cn])) (c0_7 : cn ≤ 0) : sh_M md_Lock_mustQueue [.ref q, .ref u, .int m] (n, h) (.inl (some (.int 0), (n, h))) := by
  refine sh_aload_n dc_Lock_mustQueue_0 rfl rfl ?_
  refine sh_get (k := 1) dc_Lock_mustQueue_1 f_q rfl (by decide) fl_Lock_19 rfl ?_
  refine sh_callR (sh_virt (As := []) dc_Lock_mustQueue_4 lm_Waiters_size ln_Lock_23 wd_552 wd_12 rfl rfl (Nat.le_of_ble_eq_true rfl) f_wt rfl) (pt_Waiters_size_1 f_wt) ⟨(Nat.le_of_ble_eq_true rfl), (Nat.le_of_ble_eq_true rfl), (Nat.le_of_ble_eq_true rfl), (Nat.le_of_ble_eq_true rfl)⟩ ?_
  show sh_V _ (_, _, [.int cn]) (n, h) _ _ _
  refine sh_if_le (tgt := 22) dc_Lock_mustQueue_7 (by decide) (fun _ => ?_) (fun z => absurd c0_7 z)
  refine sh_iconst (v := 0) dc_Lock_mustQueue_22 (by decide) ?_
  exact sh_ireturn dc_Lock_mustQueue_23 rfl rfl (by decide) (by decide)
theorem pt_Lock_mustQueue_2 {n : Nat} {h : sh_Hp} {q : Nat} {u : Nat} {m : Int32} {kd : Int32} {wt : Nat} {ws : UInt64} {wc : Int32} {ow : Option Nat} {dp : Int32} {rw : Nat} {cn : Int32} (f_q : h q = some (false, 4, [.int kd, .ref wt, .double ws, .int wc, va_rf ow, .int dp])) (f_wt : h wt = some (false, 2, [.ref rw, .int cn])) (c0_7 : ¬ cn ≤ 0) (c1_12 : ¬ kd = 1) : sh_M md_Lock_mustQueue [.ref q, .ref u, .int m] (n, h) (.inl (some (.int 1), (n, h))) := by
  refine sh_aload_n dc_Lock_mustQueue_0 rfl rfl ?_
  refine sh_get (k := 1) dc_Lock_mustQueue_1 f_q rfl (by decide) fl_Lock_19 rfl ?_
  refine sh_callR (sh_virt (As := []) dc_Lock_mustQueue_4 lm_Waiters_size ln_Lock_23 wd_552 wd_12 rfl rfl (Nat.le_of_ble_eq_true rfl) f_wt rfl) (pt_Waiters_size_1 f_wt) ⟨(Nat.le_of_ble_eq_true rfl), (Nat.le_of_ble_eq_true rfl), (Nat.le_of_ble_eq_true rfl), (Nat.le_of_ble_eq_true rfl)⟩ ?_
  show sh_V _ (_, _, [.int cn]) (n, h) _ _ _
  refine sh_if_le (tgt := 22) dc_Lock_mustQueue_7 (by decide) (fun z => absurd z c0_7) (fun _ => ?_)
  refine sh_aload_n dc_Lock_mustQueue_10 rfl rfl ?_
  refine sh_aload_n dc_Lock_mustQueue_11 rfl rfl ?_
  refine sh_callR (sh_virt (As := [.ref u]) dc_Lock_mustQueue_12 lm_Lock_isAgain ln_Lock_15 wd_556 wd_13 rfl rfl (Nat.le_of_ble_eq_true rfl) f_q rfl) (pt_Lock_isAgain_1 (ow := ow) f_q c1_12) ⟨(Nat.le_of_ble_eq_true rfl), (Nat.le_of_ble_eq_true rfl), (Nat.le_of_ble_eq_true rfl), (Nat.le_of_ble_eq_true rfl)⟩ ?_
  show sh_V _ (_, _, [.int 0]) (n, h) _ _ _
  refine sh_if_ne (tgt := 22) dc_Lock_mustQueue_15 (by decide) (fun z => absurd (by decide) z) (fun _ => ?_)
  refine sh_iconst (v := 1) dc_Lock_mustQueue_18 (by decide) ?_
  refine sh_goto_ (tgt := 23) dc_Lock_mustQueue_19 (by decide) ?_
  exact sh_ireturn dc_Lock_mustQueue_23 rfl rfl (by decide) (by decide)
theorem pt_Lock_mustQueue_3 {n : Nat} {h : sh_Hp} {q : Nat} {u : Nat} {m : Int32} {kd : Int32} {wt : Nat} {ws : UInt64} {wc : Int32} {dp : Int32} {rw : Nat} {cn : Int32} (f_q : h q = some (false, 4, [.int kd, .ref wt, .double ws, .int wc, .null, .int dp])) (f_wt : h wt = some (false, 2, [.ref rw, .int cn])) (c0_7 : ¬ cn ≤ 0) (c1_12 : kd = 1) : sh_M md_Lock_mustQueue [.ref q, .ref u, .int m] (n, h) (.inl (some (.int 1), (n, h))) := by
  refine sh_aload_n dc_Lock_mustQueue_0 rfl rfl ?_
  refine sh_get (k := 1) dc_Lock_mustQueue_1 f_q rfl (by decide) fl_Lock_19 rfl ?_
  refine sh_callR (sh_virt (As := []) dc_Lock_mustQueue_4 lm_Waiters_size ln_Lock_23 wd_552 wd_12 rfl rfl (Nat.le_of_ble_eq_true rfl) f_wt rfl) (pt_Waiters_size_1 f_wt) ⟨(Nat.le_of_ble_eq_true rfl), (Nat.le_of_ble_eq_true rfl), (Nat.le_of_ble_eq_true rfl), (Nat.le_of_ble_eq_true rfl)⟩ ?_
  show sh_V _ (_, _, [.int cn]) (n, h) _ _ _
  refine sh_if_le (tgt := 22) dc_Lock_mustQueue_7 (by decide) (fun z => absurd z c0_7) (fun _ => ?_)
  refine sh_aload_n dc_Lock_mustQueue_10 rfl rfl ?_
  refine sh_aload_n dc_Lock_mustQueue_11 rfl rfl ?_
  refine sh_callR (sh_virt (As := [.ref u]) dc_Lock_mustQueue_12 lm_Lock_isAgain ln_Lock_15 wd_556 wd_13 rfl rfl (Nat.le_of_ble_eq_true rfl) f_q rfl) (pt_Lock_isAgain_2 f_q c1_12) ⟨(Nat.le_of_ble_eq_true rfl), (Nat.le_of_ble_eq_true rfl), (Nat.le_of_ble_eq_true rfl), (Nat.le_of_ble_eq_true rfl)⟩ ?_
  show sh_V _ (_, _, [.int 0]) (n, h) _ _ _
  refine sh_if_ne (tgt := 22) dc_Lock_mustQueue_15 (by decide) (fun z => absurd (by decide) z) (fun _ => ?_)
  refine sh_iconst (v := 1) dc_Lock_mustQueue_18 (by decide) ?_
  refine sh_goto_ (tgt := 23) dc_Lock_mustQueue_19 (by decide) ?_
  exact sh_ireturn dc_Lock_mustQueue_23 rfl rfl (by decide) (by decide)
theorem pt_Lock_mustQueue_4 {n : Nat} {h : sh_Hp} {q : Nat} {u : Nat} {m : Int32} {kd : Int32} {wt : Nat} {ws : UInt64} {wc : Int32} {owq : Nat} {dp : Int32} {rw : Nat} {cn : Int32} (f_q : h q = some (false, 4, [.int kd, .ref wt, .double ws, .int wc, .ref owq, .int dp])) (f_wt : h wt = some (false, 2, [.ref rw, .int cn])) (c0_7 : ¬ cn ≤ 0) (c1_12 : kd = 1) (c2_12 : owq = u) : sh_M md_Lock_mustQueue [.ref q, .ref u, .int m] (n, h) (.inl (some (.int 0), (n, h))) := by
  refine sh_aload_n dc_Lock_mustQueue_0 rfl rfl ?_
  refine sh_get (k := 1) dc_Lock_mustQueue_1 f_q rfl (by decide) fl_Lock_19 rfl ?_
  refine sh_callR (sh_virt (As := []) dc_Lock_mustQueue_4 lm_Waiters_size ln_Lock_23 wd_552 wd_12 rfl rfl (Nat.le_of_ble_eq_true rfl) f_wt rfl) (pt_Waiters_size_1 f_wt) ⟨(Nat.le_of_ble_eq_true rfl), (Nat.le_of_ble_eq_true rfl), (Nat.le_of_ble_eq_true rfl), (Nat.le_of_ble_eq_true rfl)⟩ ?_
  show sh_V _ (_, _, [.int cn]) (n, h) _ _ _
  refine sh_if_le (tgt := 22) dc_Lock_mustQueue_7 (by decide) (fun z => absurd z c0_7) (fun _ => ?_)
  refine sh_aload_n dc_Lock_mustQueue_10 rfl rfl ?_
  refine sh_aload_n dc_Lock_mustQueue_11 rfl rfl ?_
  refine sh_callR (sh_virt (As := [.ref u]) dc_Lock_mustQueue_12 lm_Lock_isAgain ln_Lock_15 wd_556 wd_13 rfl rfl (Nat.le_of_ble_eq_true rfl) f_q rfl) (pt_Lock_isAgain_3 f_q c1_12 c2_12) ⟨(Nat.le_of_ble_eq_true rfl), (Nat.le_of_ble_eq_true rfl), (Nat.le_of_ble_eq_true rfl), (Nat.le_of_ble_eq_true rfl)⟩ ?_
  show sh_V _ (_, _, [.int 1]) (n, h) _ _ _
  refine sh_if_ne (tgt := 22) dc_Lock_mustQueue_15 (by decide) (fun _ => ?_) (fun z => absurd z (by decide))
  refine sh_iconst (v := 0) dc_Lock_mustQueue_22 (by decide) ?_
  exact sh_ireturn dc_Lock_mustQueue_23 rfl rfl (by decide) (by decide)
theorem pt_Lock_mustQueue_5 {n : Nat} {h : sh_Hp} {q : Nat} {u : Nat} {m : Int32} {kd : Int32} {wt : Nat} {ws : UInt64} {wc : Int32} {owq : Nat} {dp : Int32} {rw : Nat} {cn : Int32} (f_q : h q = some (false, 4, [.int kd, .ref wt, .double ws, .int wc, .ref owq, .int dp])) (f_wt : h wt = some (false, 2, [.ref rw, .int cn])) (c0_7 : ¬ cn ≤ 0) (c1_12 : kd = 1) (c2_12 : ¬ owq = u) : sh_M md_Lock_mustQueue [.ref q, .ref u, .int m] (n, h) (.inl (some (.int 1), (n, h))) := by
  refine sh_aload_n dc_Lock_mustQueue_0 rfl rfl ?_
  refine sh_get (k := 1) dc_Lock_mustQueue_1 f_q rfl (by decide) fl_Lock_19 rfl ?_
  refine sh_callR (sh_virt (As := []) dc_Lock_mustQueue_4 lm_Waiters_size ln_Lock_23 wd_552 wd_12 rfl rfl (Nat.le_of_ble_eq_true rfl) f_wt rfl) (pt_Waiters_size_1 f_wt) ⟨(Nat.le_of_ble_eq_true rfl), (Nat.le_of_ble_eq_true rfl), (Nat.le_of_ble_eq_true rfl), (Nat.le_of_ble_eq_true rfl)⟩ ?_
  show sh_V _ (_, _, [.int cn]) (n, h) _ _ _
  refine sh_if_le (tgt := 22) dc_Lock_mustQueue_7 (by decide) (fun z => absurd z c0_7) (fun _ => ?_)
  refine sh_aload_n dc_Lock_mustQueue_10 rfl rfl ?_
  refine sh_aload_n dc_Lock_mustQueue_11 rfl rfl ?_
  refine sh_callR (sh_virt (As := [.ref u]) dc_Lock_mustQueue_12 lm_Lock_isAgain ln_Lock_15 wd_556 wd_13 rfl rfl (Nat.le_of_ble_eq_true rfl) f_q rfl) (pt_Lock_isAgain_4 f_q c1_12 c2_12) ⟨(Nat.le_of_ble_eq_true rfl), (Nat.le_of_ble_eq_true rfl), (Nat.le_of_ble_eq_true rfl), (Nat.le_of_ble_eq_true rfl)⟩ ?_
  show sh_V _ (_, _, [.int 0]) (n, h) _ _ _
  refine sh_if_ne (tgt := 22) dc_Lock_mustQueue_15 (by decide) (fun z => absurd (by decide) z) (fun _ => ?_)
  refine sh_iconst (v := 1) dc_Lock_mustQueue_18 (by decide) ?_
  refine sh_goto_ (tgt := 23) dc_Lock_mustQueue_19 (by decide) ?_
  exact sh_ireturn dc_Lock_mustQueue_23 rfl rfl (by decide) (by decide)
theorem pt_Lock_giveBack_1 {n : Nat} {h : sh_Hp} {q : Nat} {u : Nat} {m : Int32} {kd : Int32} {wt : Nat} {ws : UInt64} {wc : Int32} {dp : Int32} (f_q : h q = some (false, 4, [.int kd, .ref wt, .double ws, .int wc, .null, .int dp])) : sh_M md_Lock_giveBack [.ref q, .ref u, .int m] (n, h) (.inr (3, h)) := by
  refine sh_aload_n dc_Lock_giveBack_0 rfl rfl ?_
  refine sh_aload_n dc_Lock_giveBack_1 rfl rfl ?_
  exact sh_callT (sh_stat (As := [.ref u, .ref q]) dc_Lock_giveBack_2 lm_Hall_checkOwner ln_Lock_33 wd_639 wd_49 rfl rfl (Nat.le_of_ble_eq_true rfl)) (pt_Hall_checkOwner_1 f_q) ⟨(Nat.le_of_ble_eq_true rfl), (Nat.le_of_ble_eq_true rfl), (Nat.le_of_ble_eq_true rfl), (Nat.le_of_ble_eq_true rfl)⟩ rfl
theorem pt_Lock_giveBack_2 {n : Nat} {h : sh_Hp} {q : Nat} {u : Nat} {m : Int32} {kd : Int32} {wt : Nat} {ws : UInt64} {wc : Int32} {owq : Nat} {dp : Int32} (f_q : h q = some (false, 4, [.int kd, .ref wt, .double ws, .int wc, .ref owq, .int dp])) (c0_2 : owq = u) (c1_19 : 0 < (dp - 1)) : sh_M md_Lock_giveBack [.ref q, .ref u, .int m] (n, h) (.inl (none, (n, (sh_up h q (false, 4, [.int kd, .ref wt, .double ws, .int wc, .ref owq, .int (dp - 1)]))))) := by
  refine sh_aload_n dc_Lock_giveBack_0 rfl rfl ?_
  refine sh_aload_n dc_Lock_giveBack_1 rfl rfl ?_
  refine sh_callR (sh_stat (As := [.ref u, .ref q]) dc_Lock_giveBack_2 lm_Hall_checkOwner ln_Lock_33 wd_639 wd_49 rfl rfl (Nat.le_of_ble_eq_true rfl)) (pt_Hall_checkOwner_2 f_q c0_2) ⟨(Nat.le_of_ble_eq_true rfl), (Nat.le_of_ble_eq_true rfl), (Nat.le_of_ble_eq_true rfl), (Nat.le_of_ble_eq_true rfl)⟩ ?_
  show sh_V _ (_, _, []) (n, h) _ _ _
  refine sh_aload_n dc_Lock_giveBack_5 rfl rfl ?_
  refine sh_dup dc_Lock_giveBack_6 rfl ?_
  refine sh_get (k := 5) dc_Lock_giveBack_7 f_q rfl (by decide) fl_Lock_29 rfl ?_
  refine sh_iconst (v := 1) dc_Lock_giveBack_10 (by decide) ?_
  refine sh_isub dc_Lock_giveBack_11 ?_
  refine sh_put (k := 5) dc_Lock_giveBack_12 f_q rfl (by decide) fl_Lock_29 rfl pd_I rfl rfl ?_
  show sh_V _ _ (n, (sh_up h q (false, 4, [.int kd, .ref wt, .double ws, .int wc, .ref owq, .int (dp - 1)]))) _ _ _
  have f_q_1 : (sh_up h q (false, 4, [.int kd, .ref wt, .double ws, .int wc, .ref owq, .int (dp - 1)])) q = some (false, 4, [.int kd, .ref wt, .double ws, .int wc, .ref owq, .int (dp - 1)]) := (sh_up_eq _ _ _)
  refine sh_aload_n dc_Lock_giveBack_15 rfl rfl ?_
  refine sh_get (k := 5) dc_Lock_giveBack_16 f_q_1 rfl (by decide) fl_Lock_29 rfl ?_
  refine sh_if_gt (tgt := 26) dc_Lock_giveBack_19 (by decide) (fun _ => ?_) (fun z => absurd c1_19 z)
  exact sh_return dc_Lock_giveBack_26 rfl (by decide) (by decide)
theorem pt_Lock_giveBack_3 {n : Nat} {h : sh_Hp} {q : Nat} {u : Nat} {m : Int32} {kd : Int32} {wt : Nat} {ws : UInt64} {wc : Int32} {owq : Nat} {dp : Int32} (f_q : h q = some (false, 4, [.int kd, .ref wt, .double ws, .int wc, .ref owq, .int dp])) (c0_2 : owq = u) (c1_19 : ¬ 0 < (dp - 1)) : sh_M md_Lock_giveBack [.ref q, .ref u, .int m] (n, h) (.inl (none, (n, (sh_up h q (false, 4, [.int kd, .ref wt, .double ws, .int wc, .null, .int 0]))))) := by
  refine sh_aload_n dc_Lock_giveBack_0 rfl rfl ?_
  refine sh_aload_n dc_Lock_giveBack_1 rfl rfl ?_
  refine sh_callR (sh_stat (As := [.ref u, .ref q]) dc_Lock_giveBack_2 lm_Hall_checkOwner ln_Lock_33 wd_639 wd_49 rfl rfl (Nat.le_of_ble_eq_true rfl)) (pt_Hall_checkOwner_2 f_q c0_2) ⟨(Nat.le_of_ble_eq_true rfl), (Nat.le_of_ble_eq_true rfl), (Nat.le_of_ble_eq_true rfl), (Nat.le_of_ble_eq_true rfl)⟩ ?_
  show sh_V _ (_, _, []) (n, h) _ _ _
  refine sh_aload_n dc_Lock_giveBack_5 rfl rfl ?_
  refine sh_dup dc_Lock_giveBack_6 rfl ?_
  refine sh_get (k := 5) dc_Lock_giveBack_7 f_q rfl (by decide) fl_Lock_29 rfl ?_
  refine sh_iconst (v := 1) dc_Lock_giveBack_10 (by decide) ?_
  refine sh_isub dc_Lock_giveBack_11 ?_
  refine sh_put (k := 5) dc_Lock_giveBack_12 f_q rfl (by decide) fl_Lock_29 rfl pd_I rfl rfl ?_
  show sh_V _ _ (n, (sh_up h q (false, 4, [.int kd, .ref wt, .double ws, .int wc, .ref owq, .int (dp - 1)]))) _ _ _
  have f_q_1 : (sh_up h q (false, 4, [.int kd, .ref wt, .double ws, .int wc, .ref owq, .int (dp - 1)])) q = some (false, 4, [.int kd, .ref wt, .double ws, .int wc, .ref owq, .int (dp - 1)]) := (sh_up_eq _ _ _)
  refine sh_aload_n dc_Lock_giveBack_15 rfl rfl ?_
  refine sh_get (k := 5) dc_Lock_giveBack_16 f_q_1 rfl (by decide) fl_Lock_29 rfl ?_
  refine sh_if_gt (tgt := 26) dc_Lock_giveBack_19 (by decide) (fun z => absurd z c1_19) (fun _ => ?_)
  refine sh_aload_n dc_Lock_giveBack_22 rfl rfl ?_
  refine sh_callR (sh_virt (As := []) dc_Lock_giveBack_23 lm_Lock_free ln_Lock_37 wd_644 wd_18 rfl rfl (Nat.le_of_ble_eq_true rfl) f_q_1 rfl) (pt_Lock_free_1 (ow := some owq) f_q_1) ⟨(Nat.le_of_ble_eq_true rfl), (Nat.le_of_ble_eq_true rfl), (Nat.le_of_ble_eq_true rfl), (Nat.le_of_ble_eq_true rfl)⟩ ?_
  show sh_V _ (_, _, []) (n, (sh_up (sh_up h q (false, 4, [.int kd, .ref wt, .double ws, .int wc, .ref owq, .int (dp - 1)])) q (false, 4, [.int kd, .ref wt, .double ws, .int wc, .null, .int 0]))) _ _ _
  have f_q_2 : (sh_up (sh_up h q (false, 4, [.int kd, .ref wt, .double ws, .int wc, .ref owq, .int (dp - 1)])) q (false, 4, [.int kd, .ref wt, .double ws, .int wc, .null, .int 0])) q = some (false, 4, [.int kd, .ref wt, .double ws, .int wc, .null, .int 0]) := (sh_up_eq _ _ _)
  refine sh_Vh (h2 := (sh_up h q (false, 4, [.int kd, .ref wt, .double ws, .int wc, .null, .int 0]))) (by
    funext j
    by_cases e0 : j = q
    · rw [e0]; simp only [sh_up]; simp []
    simp only [sh_up]; simp [e0]) ?_
  have f_q_3 : (sh_up h q (false, 4, [.int kd, .ref wt, .double ws, .int wc, .null, .int 0])) q = some (false, 4, [.int kd, .ref wt, .double ws, .int wc, .null, .int 0]) := (sh_up_eq _ _ _)
  exact sh_return dc_Lock_giveBack_26 rfl (by decide) (by decide)
theorem pt_Lock_giveBack_4 {n : Nat} {h : sh_Hp} {q : Nat} {u : Nat} {m : Int32} {kd : Int32} {wt : Nat} {ws : UInt64} {wc : Int32} {owq : Nat} {dp : Int32} (f_q : h q = some (false, 4, [.int kd, .ref wt, .double ws, .int wc, .ref owq, .int dp])) (c0_2 : ¬ owq = u) : sh_M md_Lock_giveBack [.ref q, .ref u, .int m] (n, h) (.inr (3, h)) := by
  refine sh_aload_n dc_Lock_giveBack_0 rfl rfl ?_
  refine sh_aload_n dc_Lock_giveBack_1 rfl rfl ?_
  exact sh_callT (sh_stat (As := [.ref u, .ref q]) dc_Lock_giveBack_2 lm_Hall_checkOwner ln_Lock_33 wd_639 wd_49 rfl rfl (Nat.le_of_ble_eq_true rfl)) (pt_Hall_checkOwner_3 f_q c0_2) ⟨(Nat.le_of_ble_eq_true rfl), (Nat.le_of_ble_eq_true rfl), (Nat.le_of_ble_eq_true rfl), (Nat.le_of_ble_eq_true rfl)⟩ rfl
theorem pt_Semaphore_canTake_1 {n : Nat} {h : sh_Hp} {q : Nat} {u : Nat} {m : Int32} {kd : Int32} {wt : Nat} {ws : UInt64} {wc : Int32} {pm : Int32} (f_q : h q = some (false, 5, [.int kd, .ref wt, .double ws, .int wc, .int pm])) (c0_4 : pm ≤ 0) : sh_M md_Semaphore_canTake [.ref q, .ref u, .int m] (n, h) (.inl (some (.int 0), (n, h))) := by
  refine sh_aload_n dc_Semaphore_canTake_0 rfl rfl ?_
  refine sh_get (k := 4) dc_Semaphore_canTake_1 f_q rfl (by decide) fl_Semaphore_9 rfl ?_
  refine sh_if_le (tgt := 11) dc_Semaphore_canTake_4 (by decide) (fun _ => ?_) (fun z => absurd c0_4 z)
  refine sh_iconst (v := 0) dc_Semaphore_canTake_11 (by decide) ?_
  exact sh_ireturn dc_Semaphore_canTake_12 rfl rfl (by decide) (by decide)
theorem pt_Semaphore_canTake_2 {n : Nat} {h : sh_Hp} {q : Nat} {u : Nat} {m : Int32} {kd : Int32} {wt : Nat} {ws : UInt64} {wc : Int32} {pm : Int32} (f_q : h q = some (false, 5, [.int kd, .ref wt, .double ws, .int wc, .int pm])) (c0_4 : ¬ pm ≤ 0) : sh_M md_Semaphore_canTake [.ref q, .ref u, .int m] (n, h) (.inl (some (.int 1), (n, h))) := by
  refine sh_aload_n dc_Semaphore_canTake_0 rfl rfl ?_
  refine sh_get (k := 4) dc_Semaphore_canTake_1 f_q rfl (by decide) fl_Semaphore_9 rfl ?_
  refine sh_if_le (tgt := 11) dc_Semaphore_canTake_4 (by decide) (fun z => absurd z c0_4) (fun _ => ?_)
  refine sh_iconst (v := 1) dc_Semaphore_canTake_7 (by decide) ?_
  refine sh_goto_ (tgt := 12) dc_Semaphore_canTake_8 (by decide) ?_
  exact sh_ireturn dc_Semaphore_canTake_12 rfl rfl (by decide) (by decide)
theorem pt_Semaphore_take_1 {n : Nat} {h : sh_Hp} {q : Nat} {u : Nat} {m : Int32} {s : Int32} {kd : Int32} {wt : Nat} {ws : UInt64} {wc : Int32} {pm : Int32} (f_q : h q = some (false, 5, [.int kd, .ref wt, .double ws, .int wc, .int pm])) : sh_M md_Semaphore_take [.ref q, .ref u, .int m, .int s] (n, h) (.inl (none, (n, (sh_up h q (false, 5, [.int kd, .ref wt, .double ws, .int wc, .int (pm - 1)]))))) := by
  refine sh_aload_n dc_Semaphore_take_0 rfl rfl ?_
  refine sh_dup dc_Semaphore_take_1 rfl ?_
  refine sh_get (k := 4) dc_Semaphore_take_2 f_q rfl (by decide) fl_Semaphore_9 rfl ?_
  refine sh_iconst (v := 1) dc_Semaphore_take_5 (by decide) ?_
  refine sh_isub dc_Semaphore_take_6 ?_
  refine sh_put (k := 4) dc_Semaphore_take_7 f_q rfl (by decide) fl_Semaphore_9 rfl pd_I rfl rfl ?_
  show sh_V _ _ (n, (sh_up h q (false, 5, [.int kd, .ref wt, .double ws, .int wc, .int (pm - 1)]))) _ _ _
  have f_q_1 : (sh_up h q (false, 5, [.int kd, .ref wt, .double ws, .int wc, .int (pm - 1)])) q = some (false, 5, [.int kd, .ref wt, .double ws, .int wc, .int (pm - 1)]) := (sh_up_eq _ _ _)
  exact sh_return dc_Semaphore_take_10 rfl (by decide) (by decide)
theorem pt_Semaphore_giveBack_1 {n : Nat} {h : sh_Hp} {q : Nat} {u : Nat} {m : Int32} {kd : Int32} {wt : Nat} {ws : UInt64} {wc : Int32} {pm : Int32} (f_q : h q = some (false, 5, [.int kd, .ref wt, .double ws, .int wc, .int pm])) (c0_6 : pm < 100) : sh_M md_Semaphore_giveBack [.ref q, .ref u, .int m] (n, h) (.inl (none, (n, (sh_up h q (false, 5, [.int kd, .ref wt, .double ws, .int wc, .int (pm + 1)]))))) := by
  refine sh_aload_n dc_Semaphore_giveBack_0 rfl rfl ?_
  refine sh_get (k := 4) dc_Semaphore_giveBack_1 f_q rfl (by decide) fl_Semaphore_9 rfl ?_
  refine sh_bipush (v := 100) dc_Semaphore_giveBack_4 (by decide) ?_
  refine sh_icmp_lt (tgt := 19) dc_Semaphore_giveBack_6 (by decide) (fun _ => ?_) (fun z => absurd c0_6 z)
  refine sh_aload_n dc_Semaphore_giveBack_19 rfl rfl ?_
  refine sh_dup dc_Semaphore_giveBack_20 rfl ?_
  refine sh_get (k := 4) dc_Semaphore_giveBack_21 f_q rfl (by decide) fl_Semaphore_9 rfl ?_
  refine sh_iconst (v := 1) dc_Semaphore_giveBack_24 (by decide) ?_
  refine sh_iadd dc_Semaphore_giveBack_25 ?_
  refine sh_put (k := 4) dc_Semaphore_giveBack_26 f_q rfl (by decide) fl_Semaphore_9 rfl pd_I rfl rfl ?_
  show sh_V _ _ (n, (sh_up h q (false, 5, [.int kd, .ref wt, .double ws, .int wc, .int (pm + 1)]))) _ _ _
  have f_q_1 : (sh_up h q (false, 5, [.int kd, .ref wt, .double ws, .int wc, .int (pm + 1)])) q = some (false, 5, [.int kd, .ref wt, .double ws, .int wc, .int (pm + 1)]) := (sh_up_eq _ _ _)
  exact sh_return dc_Semaphore_giveBack_29 rfl (by decide) (by decide)
theorem pt_Semaphore_giveBack_2 {n : Nat} {h : sh_Hp} {q : Nat} {u : Nat} {m : Int32} {kd : Int32} {wt : Nat} {ws : UInt64} {wc : Int32} {pm : Int32} (f_q : h q = some (false, 5, [.int kd, .ref wt, .double ws, .int wc, .int pm])) (c0_6 : ¬ pm < 100) : sh_M md_Semaphore_giveBack [.ref q, .ref u, .int m] (n, h) (.inr (4, h)) := by
  refine sh_aload_n dc_Semaphore_giveBack_0 rfl rfl ?_
  refine sh_get (k := 4) dc_Semaphore_giveBack_1 f_q rfl (by decide) fl_Semaphore_9 rfl ?_
  refine sh_bipush (v := 100) dc_Semaphore_giveBack_4 (by decide) ?_
  refine sh_icmp_lt (tgt := 19) dc_Semaphore_giveBack_6 (by decide) (fun z => absurd z c0_6) (fun _ => ?_)
  exact sh_thr (lx := 2) (tx := "there are no more permits than these") dc_Semaphore_giveBack_9 dc_Semaphore_giveBack_12 (Or.inl ⟨dc_Semaphore_giveBack_13, rfl⟩) dc_Semaphore_giveBack_15 dc_Semaphore_giveBack_18 lx_Semaphore_25_29 (by decide +kernel) rfl (by decide) (by decide) (by decide) (by decide)
theorem pt_Semaphore_amount_1 {n : Nat} {h : sh_Hp} {q : Nat} {kd : Int32} {wt : Nat} {ws : UInt64} {wc : Int32} {pm : Int32} (f_q : h q = some (false, 5, [.int kd, .ref wt, .double ws, .int wc, .int pm])) : sh_M md_Semaphore_amount [.ref q] (n, h) (.inl (some (.int pm), (n, h))) := by
  refine sh_aload_n dc_Semaphore_amount_0 rfl rfl ?_
  refine sh_get (k := 4) dc_Semaphore_amount_1 f_q rfl (by decide) fl_Semaphore_9 rfl ?_
  exact sh_ireturn dc_Semaphore_amount_4 rfl rfl (by decide) (by decide)
theorem pt_Semaphore_mustQueue_1 {n : Nat} {h : sh_Hp} {q : Nat} {u : Nat} {m : Int32} {kd : Int32} {wt : Nat} {ws : UInt64} {wc : Int32} {pm : Int32} {rw : Nat} {cn : Int32} (f_q : h q = some (false, 5, [.int kd, .ref wt, .double ws, .int wc, .int pm])) (f_wt : h wt = some (false, 2, [.ref rw, .int cn])) (c0_7 : cn ≤ 0) : sh_M md_Semaphore_mustQueue [.ref q, .ref u, .int m] (n, h) (.inl (some (.int 0), (n, h))) := by
  refine sh_aload_n dc_Semaphore_mustQueue_0 rfl rfl ?_
  refine sh_get (k := 1) dc_Semaphore_mustQueue_1 f_q rfl (by decide) fl_Semaphore_15 rfl ?_
  refine sh_callR (sh_virt (As := []) dc_Semaphore_mustQueue_4 lm_Waiters_size ln_Semaphore_19 wd_552 wd_12 rfl rfl (Nat.le_of_ble_eq_true rfl) f_wt rfl) (pt_Waiters_size_1 f_wt) ⟨(Nat.le_of_ble_eq_true rfl), (Nat.le_of_ble_eq_true rfl), (Nat.le_of_ble_eq_true rfl), (Nat.le_of_ble_eq_true rfl)⟩ ?_
  show sh_V _ (_, _, [.int cn]) (n, h) _ _ _
  refine sh_if_le (tgt := 14) dc_Semaphore_mustQueue_7 (by decide) (fun _ => ?_) (fun z => absurd c0_7 z)
  refine sh_iconst (v := 0) dc_Semaphore_mustQueue_14 (by decide) ?_
  exact sh_ireturn dc_Semaphore_mustQueue_15 rfl rfl (by decide) (by decide)
theorem pt_Semaphore_mustQueue_2 {n : Nat} {h : sh_Hp} {q : Nat} {u : Nat} {m : Int32} {kd : Int32} {wt : Nat} {ws : UInt64} {wc : Int32} {pm : Int32} {rw : Nat} {cn : Int32} (f_q : h q = some (false, 5, [.int kd, .ref wt, .double ws, .int wc, .int pm])) (f_wt : h wt = some (false, 2, [.ref rw, .int cn])) (c0_7 : ¬ cn ≤ 0) : sh_M md_Semaphore_mustQueue [.ref q, .ref u, .int m] (n, h) (.inl (some (.int 1), (n, h))) := by
  refine sh_aload_n dc_Semaphore_mustQueue_0 rfl rfl ?_
  refine sh_get (k := 1) dc_Semaphore_mustQueue_1 f_q rfl (by decide) fl_Semaphore_15 rfl ?_
  refine sh_callR (sh_virt (As := []) dc_Semaphore_mustQueue_4 lm_Waiters_size ln_Semaphore_19 wd_552 wd_12 rfl rfl (Nat.le_of_ble_eq_true rfl) f_wt rfl) (pt_Waiters_size_1 f_wt) ⟨(Nat.le_of_ble_eq_true rfl), (Nat.le_of_ble_eq_true rfl), (Nat.le_of_ble_eq_true rfl), (Nat.le_of_ble_eq_true rfl)⟩ ?_
  show sh_V _ (_, _, [.int cn]) (n, h) _ _ _
  refine sh_if_le (tgt := 14) dc_Semaphore_mustQueue_7 (by decide) (fun z => absurd z c0_7) (fun _ => ?_)
  refine sh_iconst (v := 1) dc_Semaphore_mustQueue_10 (by decide) ?_
  refine sh_goto_ (tgt := 15) dc_Semaphore_mustQueue_11 (by decide) ?_
  exact sh_ireturn dc_Semaphore_mustQueue_15 rfl rfl (by decide) (by decide)
theorem pt_Latch_canTake_1 {n : Nat} {h : sh_Hp} {q : Nat} {u : Nat} {m : Int32} {kd : Int32} {wt : Nat} {ws : UInt64} {wc : Int32} {ct : Int32} (f_q : h q = some (false, 6, [.int kd, .ref wt, .double ws, .int wc, .int ct])) (c0_4 : ¬ ct = 0) : sh_M md_Latch_canTake [.ref q, .ref u, .int m] (n, h) (.inl (some (.int 0), (n, h))) := by
  refine sh_aload_n dc_Latch_canTake_0 rfl rfl ?_
  refine sh_get (k := 4) dc_Latch_canTake_1 f_q rfl (by decide) fl_Latch_9 rfl ?_
  refine sh_if_ne (tgt := 11) dc_Latch_canTake_4 (by decide) (fun _ => ?_) (fun z => absurd z c0_4)
  refine sh_iconst (v := 0) dc_Latch_canTake_11 (by decide) ?_
  exact sh_ireturn dc_Latch_canTake_12 rfl rfl (by decide) (by decide)
theorem pt_Latch_canTake_2 {n : Nat} {h : sh_Hp} {q : Nat} {u : Nat} {m : Int32} {kd : Int32} {wt : Nat} {ws : UInt64} {wc : Int32} {ct : Int32} (f_q : h q = some (false, 6, [.int kd, .ref wt, .double ws, .int wc, .int ct])) (c0_4 : ct = 0) : sh_M md_Latch_canTake [.ref q, .ref u, .int m] (n, h) (.inl (some (.int 1), (n, h))) := by
  refine sh_aload_n dc_Latch_canTake_0 rfl rfl ?_
  refine sh_get (k := 4) dc_Latch_canTake_1 f_q rfl (by decide) fl_Latch_9 rfl ?_
  refine sh_if_ne (tgt := 11) dc_Latch_canTake_4 (by decide) (fun z => absurd c0_4 z) (fun _ => ?_)
  refine sh_iconst (v := 1) dc_Latch_canTake_7 (by decide) ?_
  refine sh_goto_ (tgt := 12) dc_Latch_canTake_8 (by decide) ?_
  exact sh_ireturn dc_Latch_canTake_12 rfl rfl (by decide) (by decide)
theorem pt_Latch_mustQueue_1 {n : Nat} {h : sh_Hp} {q : Nat} {u : Nat} {m : Int32} {kd : Int32} {wt : Nat} {ws : UInt64} {wc : Int32} {ct : Int32} (f_q : h q = some (false, 6, [.int kd, .ref wt, .double ws, .int wc, .int ct])) : sh_M md_Latch_mustQueue [.ref q, .ref u, .int m] (n, h) (.inl (some (.int 0), (n, h))) := by
  refine sh_iconst (v := 0) dc_Latch_mustQueue_0 (by decide) ?_
  exact sh_ireturn dc_Latch_mustQueue_1 rfl rfl (by decide) (by decide)
theorem pt_Latch_giveBack_1 {n : Nat} {h : sh_Hp} {q : Nat} {u : Nat} {m : Int32} {kd : Int32} {wt : Nat} {ws : UInt64} {wc : Int32} {ct : Int32} (f_q : h q = some (false, 6, [.int kd, .ref wt, .double ws, .int wc, .int ct])) (c0_4 : ct ≤ 0) : sh_M md_Latch_giveBack [.ref q, .ref u, .int m] (n, h) (.inl (none, (n, h))) := by
  refine sh_aload_n dc_Latch_giveBack_0 rfl rfl ?_
  refine sh_get (k := 4) dc_Latch_giveBack_1 f_q rfl (by decide) fl_Latch_9 rfl ?_
  refine sh_if_le (tgt := 17) dc_Latch_giveBack_4 (by decide) (fun _ => ?_) (fun z => absurd c0_4 z)
  exact sh_return dc_Latch_giveBack_17 rfl (by decide) (by decide)
theorem pt_Latch_giveBack_2 {n : Nat} {h : sh_Hp} {q : Nat} {u : Nat} {m : Int32} {kd : Int32} {wt : Nat} {ws : UInt64} {wc : Int32} {ct : Int32} (f_q : h q = some (false, 6, [.int kd, .ref wt, .double ws, .int wc, .int ct])) (c0_4 : ¬ ct ≤ 0) : sh_M md_Latch_giveBack [.ref q, .ref u, .int m] (n, h) (.inl (none, (n, (sh_up h q (false, 6, [.int kd, .ref wt, .double ws, .int wc, .int (ct - 1)]))))) := by
  refine sh_aload_n dc_Latch_giveBack_0 rfl rfl ?_
  refine sh_get (k := 4) dc_Latch_giveBack_1 f_q rfl (by decide) fl_Latch_9 rfl ?_
  refine sh_if_le (tgt := 17) dc_Latch_giveBack_4 (by decide) (fun z => absurd z c0_4) (fun _ => ?_)
  refine sh_aload_n dc_Latch_giveBack_7 rfl rfl ?_
  refine sh_dup dc_Latch_giveBack_8 rfl ?_
  refine sh_get (k := 4) dc_Latch_giveBack_9 f_q rfl (by decide) fl_Latch_9 rfl ?_
  refine sh_iconst (v := 1) dc_Latch_giveBack_12 (by decide) ?_
  refine sh_isub dc_Latch_giveBack_13 ?_
  refine sh_put (k := 4) dc_Latch_giveBack_14 f_q rfl (by decide) fl_Latch_9 rfl pd_I rfl rfl ?_
  show sh_V _ _ (n, (sh_up h q (false, 6, [.int kd, .ref wt, .double ws, .int wc, .int (ct - 1)]))) _ _ _
  have f_q_1 : (sh_up h q (false, 6, [.int kd, .ref wt, .double ws, .int wc, .int (ct - 1)])) q = some (false, 6, [.int kd, .ref wt, .double ws, .int wc, .int (ct - 1)]) := (sh_up_eq _ _ _)
  exact sh_return dc_Latch_giveBack_17 rfl (by decide) (by decide)
theorem pt_Latch_take_1 {n : Nat} {h : sh_Hp} {q : Nat} {u : Nat} {m : Int32} {s : Int32} {kd : Int32} {wt : Nat} {ws : UInt64} {wc : Int32} {ct : Int32} (f_q : h q = some (false, 6, [.int kd, .ref wt, .double ws, .int wc, .int ct])) : sh_M md_Latch_take [.ref q, .ref u, .int m, .int s] (n, h) (.inl (none, (n, h))) := by
  exact sh_return dc_Latch_take_0 rfl (by decide) (by decide)
theorem pt_Latch_amount_1 {n : Nat} {h : sh_Hp} {q : Nat} {kd : Int32} {wt : Nat} {ws : UInt64} {wc : Int32} {ct : Int32} (f_q : h q = some (false, 6, [.int kd, .ref wt, .double ws, .int wc, .int ct])) : sh_M md_Latch_amount [.ref q] (n, h) (.inl (some (.int ct), (n, h))) := by
  refine sh_aload_n dc_Latch_amount_0 rfl rfl ?_
  refine sh_get (k := 4) dc_Latch_amount_1 f_q rfl (by decide) fl_Latch_9 rfl ?_
  exact sh_ireturn dc_Latch_amount_4 rfl rfl (by decide) (by decide)
theorem pt_Shared_checkWish_1 {n : Nat} {h : sh_Hp} {q : Nat} {u : Nat} {m : Int32} {kd : Int32} {wt : Nat} {ws : UInt64} {wc : Int32} {rd : Nat} {wr : Option Nat} {dp : Int32} {rl : List Value} {t : Int32} {pr : UInt64} {fl : Int32} {oc : Int32} {pl : Option Nat} {mo : Int32} {he : Int32} {en : UInt64} {si : UInt64} {dd : Int32} {od : Int32} {tb : Int32} (f_q : h q = some (false, 7, [.int kd, .ref wt, .double ws, .int wc, .ref rd, va_rf wr, .int dp])) (f_rd : h rd = some (true, 0, rl)) (f_u : h u = some (false, 1, [.int t, .double pr, .int fl, .int oc, va_rf pl, .int mo, .int he, .double en, .double si, .int dd, .int od, .int tb])) (c0_2 : ¬ m = 1) : sh_M md_Shared_checkWish [.ref q, .ref u, .int m] (n, h) (.inl (none, (n, h))) := by
  refine sh_iload_n dc_Shared_checkWish_0 rfl rfl ?_
  refine sh_iconst (v := 1) dc_Shared_checkWish_1 (by decide) ?_
  refine sh_icmp_ne (tgt := 35) dc_Shared_checkWish_2 (by decide) (fun _ => ?_) (fun z => absurd z c0_2)
  exact sh_return dc_Shared_checkWish_35 rfl (by decide) (by decide)
theorem pt_Shared_checkWish_2 {n : Nat} {h : sh_Hp} {q : Nat} {u : Nat} {m : Int32} {kd : Int32} {wt : Nat} {ws : UInt64} {wc : Int32} {rd : Nat} {wr : Option Nat} {dp : Int32} {rl : List Value} {t : Int32} {pr : UInt64} {fl : Int32} {oc : Int32} {pl : Option Nat} {mo : Int32} {he : Int32} {en : UInt64} {si : UInt64} {dd : Int32} {od : Int32} {tb : Int32} {x13_0 : Int32} (f_q : h q = some (false, 7, [.int kd, .ref wt, .double ws, .int wc, .ref rd, va_rf wr, .int dp])) (f_rd : h rd = some (true, 0, rl)) (f_u : h u = some (false, 1, [.int t, .double pr, .int fl, .int oc, va_rf pl, .int mo, .int he, .double en, .double si, .int dd, .int od, .int tb])) (c0_2 : m = 1) (v1_13 : ¬ t < 0) (v2_13 : rl[t.toNatClampNeg]? = some (.int x13_0)) (c3_14 : x13_0 ≤ 0) : sh_M md_Shared_checkWish [.ref q, .ref u, .int m] (n, h) (.inl (none, (n, h))) := by
  refine sh_iload_n dc_Shared_checkWish_0 rfl rfl ?_
  refine sh_iconst (v := 1) dc_Shared_checkWish_1 (by decide) ?_
  refine sh_icmp_ne (tgt := 35) dc_Shared_checkWish_2 (by decide) (fun z => absurd c0_2 z) (fun _ => ?_)
  refine sh_aload_n dc_Shared_checkWish_5 rfl rfl ?_
  refine sh_get (k := 4) dc_Shared_checkWish_6 f_q rfl (by decide) fl_Shared_9 rfl ?_
  refine sh_aload_n dc_Shared_checkWish_9 rfl rfl ?_
  refine sh_get (k := 0) dc_Shared_checkWish_10 f_u rfl (by decide) fl_Shared_15 rfl ?_
  refine sh_iald dc_Shared_checkWish_13 f_rd rfl v1_13 v2_13 ?_
  refine sh_if_le (tgt := 35) dc_Shared_checkWish_14 (by decide) (fun _ => ?_) (fun z => absurd c3_14 z)
  exact sh_return dc_Shared_checkWish_35 rfl (by decide) (by decide)
theorem pt_Shared_checkWish_3 {n : Nat} {h : sh_Hp} {q : Nat} {u : Nat} {m : Int32} {kd : Int32} {wt : Nat} {ws : UInt64} {wc : Int32} {rd : Nat} {dp : Int32} {rl : List Value} {t : Int32} {pr : UInt64} {fl : Int32} {oc : Int32} {pl : Option Nat} {mo : Int32} {he : Int32} {en : UInt64} {si : UInt64} {dd : Int32} {od : Int32} {tb : Int32} {x13_0 : Int32} (f_q : h q = some (false, 7, [.int kd, .ref wt, .double ws, .int wc, .ref rd, .null, .int dp])) (f_rd : h rd = some (true, 0, rl)) (f_u : h u = some (false, 1, [.int t, .double pr, .int fl, .int oc, va_rf pl, .int mo, .int he, .double en, .double si, .int dd, .int od, .int tb])) (c0_2 : m = 1) (v1_13 : ¬ t < 0) (v2_13 : rl[t.toNatClampNeg]? = some (.int x13_0)) (c3_14 : ¬ x13_0 ≤ 0) : sh_M md_Shared_checkWish [.ref q, .ref u, .int m] (n, h) (.inr (4, h)) := by
  refine sh_iload_n dc_Shared_checkWish_0 rfl rfl ?_
  refine sh_iconst (v := 1) dc_Shared_checkWish_1 (by decide) ?_
  refine sh_icmp_ne (tgt := 35) dc_Shared_checkWish_2 (by decide) (fun z => absurd c0_2 z) (fun _ => ?_)
  refine sh_aload_n dc_Shared_checkWish_5 rfl rfl ?_
  refine sh_get (k := 4) dc_Shared_checkWish_6 f_q rfl (by decide) fl_Shared_9 rfl ?_
  refine sh_aload_n dc_Shared_checkWish_9 rfl rfl ?_
  refine sh_get (k := 0) dc_Shared_checkWish_10 f_u rfl (by decide) fl_Shared_15 rfl ?_
  refine sh_iald dc_Shared_checkWish_13 f_rd rfl v1_13 v2_13 ?_
  refine sh_if_le (tgt := 35) dc_Shared_checkWish_14 (by decide) (fun z => absurd z c3_14) (fun _ => ?_)
  refine sh_aload_n dc_Shared_checkWish_17 rfl rfl ?_
  refine sh_get (k := 5) dc_Shared_checkWish_18 f_q rfl (by decide) fl_Shared_21 rfl ?_
  refine sh_aload_n dc_Shared_checkWish_21 rfl rfl ?_
  refine sh_acmp_eq (rx := none) (ry := (some u)) (tgt := 35) dc_Shared_checkWish_22 (by decide) (fun z => absurd z (fun z => by cases z)) (fun _ => ?_)
  exact sh_thr (lx := 2) (tx := "a reader can't become the writer") dc_Shared_checkWish_25 dc_Shared_checkWish_28 (Or.inl ⟨dc_Shared_checkWish_29, rfl⟩) dc_Shared_checkWish_31 dc_Shared_checkWish_34 lx_Shared_25_29 (by decide +kernel) rfl (by decide) (by decide) (by decide) (by decide)
theorem pt_Shared_checkWish_4 {n : Nat} {h : sh_Hp} {q : Nat} {u : Nat} {m : Int32} {kd : Int32} {wt : Nat} {ws : UInt64} {wc : Int32} {rd : Nat} {wrq : Nat} {dp : Int32} {rl : List Value} {t : Int32} {pr : UInt64} {fl : Int32} {oc : Int32} {pl : Option Nat} {mo : Int32} {he : Int32} {en : UInt64} {si : UInt64} {dd : Int32} {od : Int32} {tb : Int32} {x13_0 : Int32} (f_q : h q = some (false, 7, [.int kd, .ref wt, .double ws, .int wc, .ref rd, .ref wrq, .int dp])) (f_rd : h rd = some (true, 0, rl)) (f_u : h u = some (false, 1, [.int t, .double pr, .int fl, .int oc, va_rf pl, .int mo, .int he, .double en, .double si, .int dd, .int od, .int tb])) (c0_2 : m = 1) (v1_13 : ¬ t < 0) (v2_13 : rl[t.toNatClampNeg]? = some (.int x13_0)) (c3_14 : ¬ x13_0 ≤ 0) (c4_22 : wrq = u) : sh_M md_Shared_checkWish [.ref q, .ref u, .int m] (n, h) (.inl (none, (n, h))) := by
  refine sh_iload_n dc_Shared_checkWish_0 rfl rfl ?_
  refine sh_iconst (v := 1) dc_Shared_checkWish_1 (by decide) ?_
  refine sh_icmp_ne (tgt := 35) dc_Shared_checkWish_2 (by decide) (fun z => absurd c0_2 z) (fun _ => ?_)
  refine sh_aload_n dc_Shared_checkWish_5 rfl rfl ?_
  refine sh_get (k := 4) dc_Shared_checkWish_6 f_q rfl (by decide) fl_Shared_9 rfl ?_
  refine sh_aload_n dc_Shared_checkWish_9 rfl rfl ?_
  refine sh_get (k := 0) dc_Shared_checkWish_10 f_u rfl (by decide) fl_Shared_15 rfl ?_
  refine sh_iald dc_Shared_checkWish_13 f_rd rfl v1_13 v2_13 ?_
  refine sh_if_le (tgt := 35) dc_Shared_checkWish_14 (by decide) (fun z => absurd z c3_14) (fun _ => ?_)
  refine sh_aload_n dc_Shared_checkWish_17 rfl rfl ?_
  refine sh_get (k := 5) dc_Shared_checkWish_18 f_q rfl (by decide) fl_Shared_21 rfl ?_
  refine sh_aload_n dc_Shared_checkWish_21 rfl rfl ?_
  refine sh_acmp_eq (rx := (some wrq)) (ry := (some u)) (tgt := 35) dc_Shared_checkWish_22 (by decide) (fun _ => ?_) (fun z => absurd (congrArg some c4_22) z)
  exact sh_return dc_Shared_checkWish_35 rfl (by decide) (by decide)
theorem pt_Shared_checkWish_5 {n : Nat} {h : sh_Hp} {q : Nat} {u : Nat} {m : Int32} {kd : Int32} {wt : Nat} {ws : UInt64} {wc : Int32} {rd : Nat} {wrq : Nat} {dp : Int32} {rl : List Value} {t : Int32} {pr : UInt64} {fl : Int32} {oc : Int32} {pl : Option Nat} {mo : Int32} {he : Int32} {en : UInt64} {si : UInt64} {dd : Int32} {od : Int32} {tb : Int32} {x13_0 : Int32} (f_q : h q = some (false, 7, [.int kd, .ref wt, .double ws, .int wc, .ref rd, .ref wrq, .int dp])) (f_rd : h rd = some (true, 0, rl)) (f_u : h u = some (false, 1, [.int t, .double pr, .int fl, .int oc, va_rf pl, .int mo, .int he, .double en, .double si, .int dd, .int od, .int tb])) (c0_2 : m = 1) (v1_13 : ¬ t < 0) (v2_13 : rl[t.toNatClampNeg]? = some (.int x13_0)) (c3_14 : ¬ x13_0 ≤ 0) (c4_22 : ¬ wrq = u) : sh_M md_Shared_checkWish [.ref q, .ref u, .int m] (n, h) (.inr (4, h)) := by
  refine sh_iload_n dc_Shared_checkWish_0 rfl rfl ?_
  refine sh_iconst (v := 1) dc_Shared_checkWish_1 (by decide) ?_
  refine sh_icmp_ne (tgt := 35) dc_Shared_checkWish_2 (by decide) (fun z => absurd c0_2 z) (fun _ => ?_)
  refine sh_aload_n dc_Shared_checkWish_5 rfl rfl ?_
  refine sh_get (k := 4) dc_Shared_checkWish_6 f_q rfl (by decide) fl_Shared_9 rfl ?_
  refine sh_aload_n dc_Shared_checkWish_9 rfl rfl ?_
  refine sh_get (k := 0) dc_Shared_checkWish_10 f_u rfl (by decide) fl_Shared_15 rfl ?_
  refine sh_iald dc_Shared_checkWish_13 f_rd rfl v1_13 v2_13 ?_
  refine sh_if_le (tgt := 35) dc_Shared_checkWish_14 (by decide) (fun z => absurd z c3_14) (fun _ => ?_)
  refine sh_aload_n dc_Shared_checkWish_17 rfl rfl ?_
  refine sh_get (k := 5) dc_Shared_checkWish_18 f_q rfl (by decide) fl_Shared_21 rfl ?_
  refine sh_aload_n dc_Shared_checkWish_21 rfl rfl ?_
  refine sh_acmp_eq (rx := (some wrq)) (ry := (some u)) (tgt := 35) dc_Shared_checkWish_22 (by decide) (fun z => absurd z (fun z => c4_22 (Option.some.inj z))) (fun _ => ?_)
  exact sh_thr (lx := 2) (tx := "a reader can't become the writer") dc_Shared_checkWish_25 dc_Shared_checkWish_28 (Or.inl ⟨dc_Shared_checkWish_29, rfl⟩) dc_Shared_checkWish_31 dc_Shared_checkWish_34 lx_Shared_25_29 (by decide +kernel) rfl (by decide) (by decide) (by decide) (by decide)
theorem pt_Shared_take_1 {n : Nat} {h : sh_Hp} {q : Nat} {u : Nat} {m : Int32} {s : Int32} {kd : Int32} {wt : Nat} {ws : UInt64} {wc : Int32} {rd : Nat} {wr : Option Nat} {dp : Int32} {rl : List Value} {t : Int32} {pr : UInt64} {fl : Int32} {oc : Int32} {pl : Option Nat} {mo : Int32} {he : Int32} {en : UInt64} {si : UInt64} {dd : Int32} {od : Int32} {tb : Int32} (f_q : h q = some (false, 7, [.int kd, .ref wt, .double ws, .int wc, .ref rd, va_rf wr, .int dp])) (f_rd : h rd = some (true, 0, rl)) (f_u : h u = some (false, 1, [.int t, .double pr, .int fl, .int oc, va_rf pl, .int mo, .int he, .double en, .double si, .int dd, .int od, .int tb])) (n_rd_q : rd ≠ q) (n_u_q : u ≠ q) (c0_1 : ¬ m = 0) : sh_M md_Shared_take [.ref q, .ref u, .int m, .int s] (n, h) (.inl (none, (n, (sh_up h q (false, 7, [.int kd, .ref wt, .double ws, .int wc, .ref rd, .ref u, .int (dp + 1)]))))) := by
  refine sh_iload_n dc_Shared_take_0 rfl rfl ?_
  refine sh_if_ne (tgt := 20) dc_Shared_take_1 (by decide) (fun _ => ?_) (fun z => absurd z c0_1)
  refine sh_aload_n dc_Shared_take_20 rfl rfl ?_
  refine sh_aload_n dc_Shared_take_21 rfl rfl ?_
  refine sh_put (k := 5) dc_Shared_take_22 f_q rfl (by decide) fl_Shared_21 rfl pd_LWorker rfl rfl ?_
  show sh_V _ _ (n, (sh_up h q (false, 7, [.int kd, .ref wt, .double ws, .int wc, .ref rd, .ref u, .int dp]))) _ _ _
  have f_q_1 : (sh_up h q (false, 7, [.int kd, .ref wt, .double ws, .int wc, .ref rd, .ref u, .int dp])) q = some (false, 7, [.int kd, .ref wt, .double ws, .int wc, .ref rd, .ref u, .int dp]) := (sh_up_eq _ _ _)
  have f_rd_1 : (sh_up h q (false, 7, [.int kd, .ref wt, .double ws, .int wc, .ref rd, .ref u, .int dp])) rd = some (true, 0, rl) := ((sh_up_ne n_rd_q).trans f_rd)
  have f_u_1 : (sh_up h q (false, 7, [.int kd, .ref wt, .double ws, .int wc, .ref rd, .ref u, .int dp])) u = some (false, 1, [.int t, .double pr, .int fl, .int oc, va_rf pl, .int mo, .int he, .double en, .double si, .int dd, .int od, .int tb]) := ((sh_up_ne n_u_q).trans f_u)
  refine sh_aload_n dc_Shared_take_25 rfl rfl ?_
  refine sh_dup dc_Shared_take_26 rfl ?_
  refine sh_get (k := 6) dc_Shared_take_27 f_q_1 rfl (by decide) fl_Shared_50 rfl ?_
  refine sh_iconst (v := 1) dc_Shared_take_30 (by decide) ?_
  refine sh_iadd dc_Shared_take_31 ?_
  refine sh_put (k := 6) dc_Shared_take_32 f_q_1 rfl (by decide) fl_Shared_50 rfl pd_I rfl rfl ?_
  refine sh_Vh (sh_up_up _ _ _ _) ?_
  show sh_V _ _ (n, (sh_up h q (false, 7, [.int kd, .ref wt, .double ws, .int wc, .ref rd, .ref u, .int (dp + 1)]))) _ _ _
  have f_q_2 : (sh_up h q (false, 7, [.int kd, .ref wt, .double ws, .int wc, .ref rd, .ref u, .int (dp + 1)])) q = some (false, 7, [.int kd, .ref wt, .double ws, .int wc, .ref rd, .ref u, .int (dp + 1)]) := (sh_up_eq _ _ _)
  have f_rd_2 : (sh_up h q (false, 7, [.int kd, .ref wt, .double ws, .int wc, .ref rd, .ref u, .int (dp + 1)])) rd = some (true, 0, rl) := ((sh_up_ne n_rd_q).trans f_rd)
  have f_u_2 : (sh_up h q (false, 7, [.int kd, .ref wt, .double ws, .int wc, .ref rd, .ref u, .int (dp + 1)])) u = some (false, 1, [.int t, .double pr, .int fl, .int oc, va_rf pl, .int mo, .int he, .double en, .double si, .int dd, .int od, .int tb]) := ((sh_up_ne n_u_q).trans f_u)
  exact sh_return dc_Shared_take_35 rfl (by decide) (by decide)
theorem pt_Shared_take_2 {n : Nat} {h : sh_Hp} {q : Nat} {u : Nat} {m : Int32} {s : Int32} {kd : Int32} {wt : Nat} {ws : UInt64} {wc : Int32} {rd : Nat} {wr : Option Nat} {dp : Int32} {rl : List Value} {t : Int32} {pr : UInt64} {fl : Int32} {oc : Int32} {pl : Option Nat} {mo : Int32} {he : Int32} {en : UInt64} {si : UInt64} {dd : Int32} {od : Int32} {tb : Int32} {x13_0 : Int32} (f_q : h q = some (false, 7, [.int kd, .ref wt, .double ws, .int wc, .ref rd, va_rf wr, .int dp])) (f_rd : h rd = some (true, 0, rl)) (f_u : h u = some (false, 1, [.int t, .double pr, .int fl, .int oc, va_rf pl, .int mo, .int he, .double en, .double si, .int dd, .int od, .int tb])) (n_q_rd : q ≠ rd) (n_u_rd : u ≠ rd) (c0_1 : m = 0) (v1_13 : ¬ t < 0) (v2_13 : rl[t.toNatClampNeg]? = some (.int x13_0)) : sh_M md_Shared_take [.ref q, .ref u, .int m, .int s] (n, h) (.inl (none, (n, (sh_up h rd (true, 0, (rl.set t.toNatClampNeg (.int (x13_0 + 1)))))))) := by
  refine sh_iload_n dc_Shared_take_0 rfl rfl ?_
  refine sh_if_ne (tgt := 20) dc_Shared_take_1 (by decide) (fun z => absurd c0_1 z) (fun _ => ?_)
  refine sh_aload_n dc_Shared_take_4 rfl rfl ?_
  refine sh_get (k := 4) dc_Shared_take_5 f_q rfl (by decide) fl_Shared_9 rfl ?_
  refine sh_aload_n dc_Shared_take_8 rfl rfl ?_
  refine sh_get (k := 0) dc_Shared_take_9 f_u rfl (by decide) fl_Shared_15 rfl ?_
  refine sh_dup2 dc_Shared_take_12 rfl rfl ?_
  refine sh_iald dc_Shared_take_13 f_rd rfl v1_13 v2_13 ?_
  refine sh_iconst (v := 1) dc_Shared_take_14 (by decide) ?_
  refine sh_iadd dc_Shared_take_15 ?_
  refine sh_iast dc_Shared_take_16 f_rd rfl v1_13 v2_13 ?_
  show sh_V _ _ (n, (sh_up h rd (true, 0, (rl.set t.toNatClampNeg (.int (x13_0 + 1)))))) _ _ _
  have f_q_1 : (sh_up h rd (true, 0, (rl.set t.toNatClampNeg (.int (x13_0 + 1))))) q = some (false, 7, [.int kd, .ref wt, .double ws, .int wc, .ref rd, va_rf wr, .int dp]) := ((sh_up_ne n_q_rd).trans f_q)
  have f_rd_1 : (sh_up h rd (true, 0, (rl.set t.toNatClampNeg (.int (x13_0 + 1))))) rd = some (true, 0, (rl.set t.toNatClampNeg (.int (x13_0 + 1)))) := (sh_up_eq _ _ _)
  have f_u_1 : (sh_up h rd (true, 0, (rl.set t.toNatClampNeg (.int (x13_0 + 1))))) u = some (false, 1, [.int t, .double pr, .int fl, .int oc, va_rf pl, .int mo, .int he, .double en, .double si, .int dd, .int od, .int tb]) := ((sh_up_ne n_u_rd).trans f_u)
  refine sh_goto_ (tgt := 35) dc_Shared_take_17 (by decide) ?_
  exact sh_return dc_Shared_take_35 rfl (by decide) (by decide)
theorem pt_Shared_stopReading_1 {n : Nat} {h : sh_Hp} {q : Nat} {u : Nat} {kd : Int32} {wt : Nat} {ws : UInt64} {wc : Int32} {rd : Nat} {wr : Option Nat} {dp : Int32} {rl : List Value} {t : Int32} {pr : UInt64} {fl : Int32} {oc : Int32} {pl : Option Nat} {mo : Int32} {he : Int32} {en : UInt64} {si : UInt64} {dd : Int32} {od : Int32} {tb : Int32} {x8_0 : Int32} {x31_1 : Int32} (f_q : h q = some (false, 7, [.int kd, .ref wt, .double ws, .int wc, .ref rd, va_rf wr, .int dp])) (f_rd : h rd = some (true, 0, rl)) (f_u : h u = some (false, 1, [.int t, .double pr, .int fl, .int oc, va_rf pl, .int mo, .int he, .double en, .double si, .int dd, .int od, .int tb])) (n_q_rd : q ≠ rd) (n_u_rd : u ≠ rd) (v0_8 : ¬ t < 0) (v1_8 : rl[t.toNatClampNeg]? = some (.int x8_0)) (c2_9 : 0 < x8_0) (v3_31 : rl[t.toNatClampNeg]? = some (.int x31_1)) : sh_M md_Shared_stopReading [.ref q, .ref u] (n, h) (.inl (none, (n, (sh_up h rd (true, 0, (rl.set t.toNatClampNeg (.int (x31_1 - 1)))))))) := by
  refine sh_aload_n dc_Shared_stopReading_0 rfl rfl ?_
  refine sh_get (k := 4) dc_Shared_stopReading_1 f_q rfl (by decide) fl_Shared_9 rfl ?_
  refine sh_aload_n dc_Shared_stopReading_4 rfl rfl ?_
  refine sh_get (k := 0) dc_Shared_stopReading_5 f_u rfl (by decide) fl_Shared_15 rfl ?_
  refine sh_iald dc_Shared_stopReading_8 f_rd rfl v0_8 v1_8 ?_
  refine sh_if_gt (tgt := 22) dc_Shared_stopReading_9 (by decide) (fun _ => ?_) (fun z => absurd c2_9 z)
  refine sh_aload_n dc_Shared_stopReading_22 rfl rfl ?_
  refine sh_get (k := 4) dc_Shared_stopReading_23 f_q rfl (by decide) fl_Shared_9 rfl ?_
  refine sh_aload_n dc_Shared_stopReading_26 rfl rfl ?_
  refine sh_get (k := 0) dc_Shared_stopReading_27 f_u rfl (by decide) fl_Shared_15 rfl ?_
  refine sh_dup2 dc_Shared_stopReading_30 rfl rfl ?_
  refine sh_iald dc_Shared_stopReading_31 f_rd rfl v0_8 v3_31 ?_
  refine sh_iconst (v := 1) dc_Shared_stopReading_32 (by decide) ?_
  refine sh_isub dc_Shared_stopReading_33 ?_
  refine sh_iast dc_Shared_stopReading_34 f_rd rfl v0_8 v3_31 ?_
  show sh_V _ _ (n, (sh_up h rd (true, 0, (rl.set t.toNatClampNeg (.int (x31_1 - 1)))))) _ _ _
  have f_q_1 : (sh_up h rd (true, 0, (rl.set t.toNatClampNeg (.int (x31_1 - 1))))) q = some (false, 7, [.int kd, .ref wt, .double ws, .int wc, .ref rd, va_rf wr, .int dp]) := ((sh_up_ne n_q_rd).trans f_q)
  have f_rd_1 : (sh_up h rd (true, 0, (rl.set t.toNatClampNeg (.int (x31_1 - 1))))) rd = some (true, 0, (rl.set t.toNatClampNeg (.int (x31_1 - 1)))) := (sh_up_eq _ _ _)
  have f_u_1 : (sh_up h rd (true, 0, (rl.set t.toNatClampNeg (.int (x31_1 - 1))))) u = some (false, 1, [.int t, .double pr, .int fl, .int oc, va_rf pl, .int mo, .int he, .double en, .double si, .int dd, .int od, .int tb]) := ((sh_up_ne n_u_rd).trans f_u)
  exact sh_return dc_Shared_stopReading_35 rfl (by decide) (by decide)
theorem pt_Shared_stopReading_2 {n : Nat} {h : sh_Hp} {q : Nat} {u : Nat} {kd : Int32} {wt : Nat} {ws : UInt64} {wc : Int32} {rd : Nat} {wr : Option Nat} {dp : Int32} {rl : List Value} {t : Int32} {pr : UInt64} {fl : Int32} {oc : Int32} {pl : Option Nat} {mo : Int32} {he : Int32} {en : UInt64} {si : UInt64} {dd : Int32} {od : Int32} {tb : Int32} {x8_0 : Int32} (f_q : h q = some (false, 7, [.int kd, .ref wt, .double ws, .int wc, .ref rd, va_rf wr, .int dp])) (f_rd : h rd = some (true, 0, rl)) (f_u : h u = some (false, 1, [.int t, .double pr, .int fl, .int oc, va_rf pl, .int mo, .int he, .double en, .double si, .int dd, .int od, .int tb])) (v0_8 : ¬ t < 0) (v1_8 : rl[t.toNatClampNeg]? = some (.int x8_0)) (c2_9 : ¬ 0 < x8_0) : sh_M md_Shared_stopReading [.ref q, .ref u] (n, h) (.inr (3, h)) := by
  refine sh_aload_n dc_Shared_stopReading_0 rfl rfl ?_
  refine sh_get (k := 4) dc_Shared_stopReading_1 f_q rfl (by decide) fl_Shared_9 rfl ?_
  refine sh_aload_n dc_Shared_stopReading_4 rfl rfl ?_
  refine sh_get (k := 0) dc_Shared_stopReading_5 f_u rfl (by decide) fl_Shared_15 rfl ?_
  refine sh_iald dc_Shared_stopReading_8 f_rd rfl v0_8 v1_8 ?_
  refine sh_if_gt (tgt := 22) dc_Shared_stopReading_9 (by decide) (fun z => absurd z c2_9) (fun _ => ?_)
  exact sh_thr (lx := 2) (tx := "the thread does not read") dc_Shared_stopReading_12 dc_Shared_stopReading_15 (Or.inl ⟨dc_Shared_stopReading_16, rfl⟩) dc_Shared_stopReading_18 dc_Shared_stopReading_21 lx_Shared_64_68 (by decide +kernel) rfl (by decide) (by decide) (by decide) (by decide)
theorem pt_Shared_stopWriting_1 {n : Nat} {h : sh_Hp} {q : Nat} {u : Nat} {kd : Int32} {wt : Nat} {ws : UInt64} {wc : Int32} {rd : Nat} {dp : Int32} (f_q : h q = some (false, 7, [.int kd, .ref wt, .double ws, .int wc, .ref rd, .null, .int dp])) : sh_M md_Shared_stopWriting [.ref q, .ref u] (n, h) (.inr (3, h)) := by
  refine sh_aload_n dc_Shared_stopWriting_0 rfl rfl ?_
  refine sh_get (k := 5) dc_Shared_stopWriting_1 f_q rfl (by decide) fl_Shared_21 rfl ?_
  refine sh_aload_n dc_Shared_stopWriting_4 rfl rfl ?_
  refine sh_acmp_eq (rx := none) (ry := (some u)) (tgt := 18) dc_Shared_stopWriting_5 (by decide) (fun z => absurd z (fun z => by cases z)) (fun _ => ?_)
  exact sh_thr (lx := 2) (tx := "the thread is not the writer") dc_Shared_stopWriting_8 dc_Shared_stopWriting_11 (Or.inl ⟨dc_Shared_stopWriting_12, rfl⟩) dc_Shared_stopWriting_14 dc_Shared_stopWriting_17 lx_Shared_64_68 (by decide +kernel) rfl (by decide) (by decide) (by decide) (by decide)
theorem pt_Shared_stopWriting_2 {n : Nat} {h : sh_Hp} {q : Nat} {u : Nat} {kd : Int32} {wt : Nat} {ws : UInt64} {wc : Int32} {rd : Nat} {wrq : Nat} {dp : Int32} (f_q : h q = some (false, 7, [.int kd, .ref wt, .double ws, .int wc, .ref rd, .ref wrq, .int dp])) (c0_5 : wrq = u) (c1_32 : 0 < (dp - 1)) : sh_M md_Shared_stopWriting [.ref q, .ref u] (n, h) (.inl (none, (n, (sh_up h q (false, 7, [.int kd, .ref wt, .double ws, .int wc, .ref rd, .ref wrq, .int (dp - 1)]))))) := by
  refine sh_aload_n dc_Shared_stopWriting_0 rfl rfl ?_
  refine sh_get (k := 5) dc_Shared_stopWriting_1 f_q rfl (by decide) fl_Shared_21 rfl ?_
  refine sh_aload_n dc_Shared_stopWriting_4 rfl rfl ?_
  refine sh_acmp_eq (rx := (some wrq)) (ry := (some u)) (tgt := 18) dc_Shared_stopWriting_5 (by decide) (fun _ => ?_) (fun z => absurd (congrArg some c0_5) z)
  refine sh_aload_n dc_Shared_stopWriting_18 rfl rfl ?_
  refine sh_dup dc_Shared_stopWriting_19 rfl ?_
  refine sh_get (k := 6) dc_Shared_stopWriting_20 f_q rfl (by decide) fl_Shared_50 rfl ?_
  refine sh_iconst (v := 1) dc_Shared_stopWriting_23 (by decide) ?_
  refine sh_isub dc_Shared_stopWriting_24 ?_
  refine sh_put (k := 6) dc_Shared_stopWriting_25 f_q rfl (by decide) fl_Shared_50 rfl pd_I rfl rfl ?_
  show sh_V _ _ (n, (sh_up h q (false, 7, [.int kd, .ref wt, .double ws, .int wc, .ref rd, .ref wrq, .int (dp - 1)]))) _ _ _
  have f_q_1 : (sh_up h q (false, 7, [.int kd, .ref wt, .double ws, .int wc, .ref rd, .ref wrq, .int (dp - 1)])) q = some (false, 7, [.int kd, .ref wt, .double ws, .int wc, .ref rd, .ref wrq, .int (dp - 1)]) := (sh_up_eq _ _ _)
  refine sh_aload_n dc_Shared_stopWriting_28 rfl rfl ?_
  refine sh_get (k := 6) dc_Shared_stopWriting_29 f_q_1 rfl (by decide) fl_Shared_50 rfl ?_
  refine sh_if_gt (tgt := 40) dc_Shared_stopWriting_32 (by decide) (fun _ => ?_) (fun z => absurd c1_32 z)
  exact sh_return dc_Shared_stopWriting_40 rfl (by decide) (by decide)
theorem pt_Shared_stopWriting_3 {n : Nat} {h : sh_Hp} {q : Nat} {u : Nat} {kd : Int32} {wt : Nat} {ws : UInt64} {wc : Int32} {rd : Nat} {wrq : Nat} {dp : Int32} (f_q : h q = some (false, 7, [.int kd, .ref wt, .double ws, .int wc, .ref rd, .ref wrq, .int dp])) (c0_5 : wrq = u) (c1_32 : ¬ 0 < (dp - 1)) : sh_M md_Shared_stopWriting [.ref q, .ref u] (n, h) (.inl (none, (n, (sh_up h q (false, 7, [.int kd, .ref wt, .double ws, .int wc, .ref rd, .null, .int (dp - 1)]))))) := by
  refine sh_aload_n dc_Shared_stopWriting_0 rfl rfl ?_
  refine sh_get (k := 5) dc_Shared_stopWriting_1 f_q rfl (by decide) fl_Shared_21 rfl ?_
  refine sh_aload_n dc_Shared_stopWriting_4 rfl rfl ?_
  refine sh_acmp_eq (rx := (some wrq)) (ry := (some u)) (tgt := 18) dc_Shared_stopWriting_5 (by decide) (fun _ => ?_) (fun z => absurd (congrArg some c0_5) z)
  refine sh_aload_n dc_Shared_stopWriting_18 rfl rfl ?_
  refine sh_dup dc_Shared_stopWriting_19 rfl ?_
  refine sh_get (k := 6) dc_Shared_stopWriting_20 f_q rfl (by decide) fl_Shared_50 rfl ?_
  refine sh_iconst (v := 1) dc_Shared_stopWriting_23 (by decide) ?_
  refine sh_isub dc_Shared_stopWriting_24 ?_
  refine sh_put (k := 6) dc_Shared_stopWriting_25 f_q rfl (by decide) fl_Shared_50 rfl pd_I rfl rfl ?_
  show sh_V _ _ (n, (sh_up h q (false, 7, [.int kd, .ref wt, .double ws, .int wc, .ref rd, .ref wrq, .int (dp - 1)]))) _ _ _
  have f_q_1 : (sh_up h q (false, 7, [.int kd, .ref wt, .double ws, .int wc, .ref rd, .ref wrq, .int (dp - 1)])) q = some (false, 7, [.int kd, .ref wt, .double ws, .int wc, .ref rd, .ref wrq, .int (dp - 1)]) := (sh_up_eq _ _ _)
  refine sh_aload_n dc_Shared_stopWriting_28 rfl rfl ?_
  refine sh_get (k := 6) dc_Shared_stopWriting_29 f_q_1 rfl (by decide) fl_Shared_50 rfl ?_
  refine sh_if_gt (tgt := 40) dc_Shared_stopWriting_32 (by decide) (fun z => absurd z c1_32) (fun _ => ?_)
  refine sh_aload_n dc_Shared_stopWriting_35 rfl rfl ?_
  refine sh_anull dc_Shared_stopWriting_36 ?_
  refine sh_put (k := 5) dc_Shared_stopWriting_37 f_q_1 rfl (by decide) fl_Shared_21 rfl pd_LWorker rfl rfl ?_
  refine sh_Vh (sh_up_up _ _ _ _) ?_
  show sh_V _ _ (n, (sh_up h q (false, 7, [.int kd, .ref wt, .double ws, .int wc, .ref rd, .null, .int (dp - 1)]))) _ _ _
  have f_q_2 : (sh_up h q (false, 7, [.int kd, .ref wt, .double ws, .int wc, .ref rd, .null, .int (dp - 1)])) q = some (false, 7, [.int kd, .ref wt, .double ws, .int wc, .ref rd, .null, .int (dp - 1)]) := (sh_up_eq _ _ _)
  exact sh_return dc_Shared_stopWriting_40 rfl (by decide) (by decide)
theorem pt_Shared_stopWriting_4 {n : Nat} {h : sh_Hp} {q : Nat} {u : Nat} {kd : Int32} {wt : Nat} {ws : UInt64} {wc : Int32} {rd : Nat} {wrq : Nat} {dp : Int32} (f_q : h q = some (false, 7, [.int kd, .ref wt, .double ws, .int wc, .ref rd, .ref wrq, .int dp])) (c0_5 : ¬ wrq = u) : sh_M md_Shared_stopWriting [.ref q, .ref u] (n, h) (.inr (3, h)) := by
  refine sh_aload_n dc_Shared_stopWriting_0 rfl rfl ?_
  refine sh_get (k := 5) dc_Shared_stopWriting_1 f_q rfl (by decide) fl_Shared_21 rfl ?_
  refine sh_aload_n dc_Shared_stopWriting_4 rfl rfl ?_
  refine sh_acmp_eq (rx := (some wrq)) (ry := (some u)) (tgt := 18) dc_Shared_stopWriting_5 (by decide) (fun z => absurd z (fun z => c0_5 (Option.some.inj z))) (fun _ => ?_)
  exact sh_thr (lx := 2) (tx := "the thread is not the writer") dc_Shared_stopWriting_8 dc_Shared_stopWriting_11 (Or.inl ⟨dc_Shared_stopWriting_12, rfl⟩) dc_Shared_stopWriting_14 dc_Shared_stopWriting_17 lx_Shared_64_68 (by decide +kernel) rfl (by decide) (by decide) (by decide) (by decide)
theorem pt_Shared_giveBack_1 {n : Nat} {h : sh_Hp} {q : Nat} {u : Nat} {m : Int32} {kd : Int32} {wt : Nat} {ws : UInt64} {wc : Int32} {rd : Nat} {dp : Int32} {rl : List Value} {t : Int32} {pr : UInt64} {fl : Int32} {oc : Int32} {pl : Option Nat} {mo : Int32} {he : Int32} {en : UInt64} {si : UInt64} {dd : Int32} {od : Int32} {tb : Int32} (f_q : h q = some (false, 7, [.int kd, .ref wt, .double ws, .int wc, .ref rd, .null, .int dp])) (f_rd : h rd = some (true, 0, rl)) (f_u : h u = some (false, 1, [.int t, .double pr, .int fl, .int oc, va_rf pl, .int mo, .int he, .double en, .double si, .int dd, .int od, .int tb])) (c0_1 : ¬ m = 0) : sh_M md_Shared_giveBack [.ref q, .ref u, .int m] (n, h) (.inr (3, h)) := by
  refine sh_iload_n dc_Shared_giveBack_0 rfl rfl ?_
  refine sh_if_ne (tgt := 12) dc_Shared_giveBack_1 (by decide) (fun _ => ?_) (fun z => absurd z c0_1)
  refine sh_aload_n dc_Shared_giveBack_12 rfl rfl ?_
  refine sh_aload_n dc_Shared_giveBack_13 rfl rfl ?_
  exact sh_callT (sh_virt (As := [.ref u]) dc_Shared_giveBack_14 lm_Shared_stopWriting ln_Shared_57 wd_664 wd_20 rfl rfl (Nat.le_of_ble_eq_true rfl) f_q rfl) (pt_Shared_stopWriting_1 f_q) ⟨(Nat.le_of_ble_eq_true rfl), (Nat.le_of_ble_eq_true rfl), (Nat.le_of_ble_eq_true rfl), (Nat.le_of_ble_eq_true rfl)⟩ rfl
theorem pt_Shared_giveBack_2 {n : Nat} {h : sh_Hp} {q : Nat} {u : Nat} {m : Int32} {kd : Int32} {wt : Nat} {ws : UInt64} {wc : Int32} {rd : Nat} {wrq : Nat} {dp : Int32} {rl : List Value} {t : Int32} {pr : UInt64} {fl : Int32} {oc : Int32} {pl : Option Nat} {mo : Int32} {he : Int32} {en : UInt64} {si : UInt64} {dd : Int32} {od : Int32} {tb : Int32} (f_q : h q = some (false, 7, [.int kd, .ref wt, .double ws, .int wc, .ref rd, .ref wrq, .int dp])) (f_rd : h rd = some (true, 0, rl)) (f_u : h u = some (false, 1, [.int t, .double pr, .int fl, .int oc, va_rf pl, .int mo, .int he, .double en, .double si, .int dd, .int od, .int tb])) (n_rd_q : rd ≠ q) (n_u_q : u ≠ q) (c0_1 : ¬ m = 0) (c1_14 : wrq = u) (c2_14 : 0 < (dp - 1)) : sh_M md_Shared_giveBack [.ref q, .ref u, .int m] (n, h) (.inl (none, (n, (sh_up h q (false, 7, [.int kd, .ref wt, .double ws, .int wc, .ref rd, .ref wrq, .int (dp - 1)]))))) := by
  refine sh_iload_n dc_Shared_giveBack_0 rfl rfl ?_
  refine sh_if_ne (tgt := 12) dc_Shared_giveBack_1 (by decide) (fun _ => ?_) (fun z => absurd z c0_1)
  refine sh_aload_n dc_Shared_giveBack_12 rfl rfl ?_
  refine sh_aload_n dc_Shared_giveBack_13 rfl rfl ?_
  refine sh_callR (sh_virt (As := [.ref u]) dc_Shared_giveBack_14 lm_Shared_stopWriting ln_Shared_57 wd_664 wd_20 rfl rfl (Nat.le_of_ble_eq_true rfl) f_q rfl) (pt_Shared_stopWriting_2 f_q c1_14 c2_14) ⟨(Nat.le_of_ble_eq_true rfl), (Nat.le_of_ble_eq_true rfl), (Nat.le_of_ble_eq_true rfl), (Nat.le_of_ble_eq_true rfl)⟩ ?_
  show sh_V _ (_, _, []) (n, (sh_up h q (false, 7, [.int kd, .ref wt, .double ws, .int wc, .ref rd, .ref wrq, .int (dp - 1)]))) _ _ _
  have f_q_1 : (sh_up h q (false, 7, [.int kd, .ref wt, .double ws, .int wc, .ref rd, .ref wrq, .int (dp - 1)])) q = some (false, 7, [.int kd, .ref wt, .double ws, .int wc, .ref rd, .ref wrq, .int (dp - 1)]) := (sh_up_eq _ _ _)
  have f_rd_1 : (sh_up h q (false, 7, [.int kd, .ref wt, .double ws, .int wc, .ref rd, .ref wrq, .int (dp - 1)])) rd = some (true, 0, rl) := ((sh_up_ne n_rd_q).trans f_rd)
  have f_u_1 : (sh_up h q (false, 7, [.int kd, .ref wt, .double ws, .int wc, .ref rd, .ref wrq, .int (dp - 1)])) u = some (false, 1, [.int t, .double pr, .int fl, .int oc, va_rf pl, .int mo, .int he, .double en, .double si, .int dd, .int od, .int tb]) := ((sh_up_ne n_u_q).trans f_u)
  exact sh_return dc_Shared_giveBack_17 rfl (by decide) (by decide)
theorem pt_Shared_giveBack_3 {n : Nat} {h : sh_Hp} {q : Nat} {u : Nat} {m : Int32} {kd : Int32} {wt : Nat} {ws : UInt64} {wc : Int32} {rd : Nat} {wrq : Nat} {dp : Int32} {rl : List Value} {t : Int32} {pr : UInt64} {fl : Int32} {oc : Int32} {pl : Option Nat} {mo : Int32} {he : Int32} {en : UInt64} {si : UInt64} {dd : Int32} {od : Int32} {tb : Int32} (f_q : h q = some (false, 7, [.int kd, .ref wt, .double ws, .int wc, .ref rd, .ref wrq, .int dp])) (f_rd : h rd = some (true, 0, rl)) (f_u : h u = some (false, 1, [.int t, .double pr, .int fl, .int oc, va_rf pl, .int mo, .int he, .double en, .double si, .int dd, .int od, .int tb])) (n_rd_q : rd ≠ q) (n_u_q : u ≠ q) (c0_1 : ¬ m = 0) (c1_14 : wrq = u) (c2_14 : ¬ 0 < (dp - 1)) : sh_M md_Shared_giveBack [.ref q, .ref u, .int m] (n, h) (.inl (none, (n, (sh_up h q (false, 7, [.int kd, .ref wt, .double ws, .int wc, .ref rd, .null, .int (dp - 1)]))))) := by
  refine sh_iload_n dc_Shared_giveBack_0 rfl rfl ?_
  refine sh_if_ne (tgt := 12) dc_Shared_giveBack_1 (by decide) (fun _ => ?_) (fun z => absurd z c0_1)
  refine sh_aload_n dc_Shared_giveBack_12 rfl rfl ?_
  refine sh_aload_n dc_Shared_giveBack_13 rfl rfl ?_
  refine sh_callR (sh_virt (As := [.ref u]) dc_Shared_giveBack_14 lm_Shared_stopWriting ln_Shared_57 wd_664 wd_20 rfl rfl (Nat.le_of_ble_eq_true rfl) f_q rfl) (pt_Shared_stopWriting_3 f_q c1_14 c2_14) ⟨(Nat.le_of_ble_eq_true rfl), (Nat.le_of_ble_eq_true rfl), (Nat.le_of_ble_eq_true rfl), (Nat.le_of_ble_eq_true rfl)⟩ ?_
  show sh_V _ (_, _, []) (n, (sh_up h q (false, 7, [.int kd, .ref wt, .double ws, .int wc, .ref rd, .null, .int (dp - 1)]))) _ _ _
  have f_q_1 : (sh_up h q (false, 7, [.int kd, .ref wt, .double ws, .int wc, .ref rd, .null, .int (dp - 1)])) q = some (false, 7, [.int kd, .ref wt, .double ws, .int wc, .ref rd, .null, .int (dp - 1)]) := (sh_up_eq _ _ _)
  have f_rd_1 : (sh_up h q (false, 7, [.int kd, .ref wt, .double ws, .int wc, .ref rd, .null, .int (dp - 1)])) rd = some (true, 0, rl) := ((sh_up_ne n_rd_q).trans f_rd)
  have f_u_1 : (sh_up h q (false, 7, [.int kd, .ref wt, .double ws, .int wc, .ref rd, .null, .int (dp - 1)])) u = some (false, 1, [.int t, .double pr, .int fl, .int oc, va_rf pl, .int mo, .int he, .double en, .double si, .int dd, .int od, .int tb]) := ((sh_up_ne n_u_q).trans f_u)
  exact sh_return dc_Shared_giveBack_17 rfl (by decide) (by decide)
theorem pt_Shared_giveBack_4 {n : Nat} {h : sh_Hp} {q : Nat} {u : Nat} {m : Int32} {kd : Int32} {wt : Nat} {ws : UInt64} {wc : Int32} {rd : Nat} {wrq : Nat} {dp : Int32} {rl : List Value} {t : Int32} {pr : UInt64} {fl : Int32} {oc : Int32} {pl : Option Nat} {mo : Int32} {he : Int32} {en : UInt64} {si : UInt64} {dd : Int32} {od : Int32} {tb : Int32} (f_q : h q = some (false, 7, [.int kd, .ref wt, .double ws, .int wc, .ref rd, .ref wrq, .int dp])) (f_rd : h rd = some (true, 0, rl)) (f_u : h u = some (false, 1, [.int t, .double pr, .int fl, .int oc, va_rf pl, .int mo, .int he, .double en, .double si, .int dd, .int od, .int tb])) (c0_1 : ¬ m = 0) (c1_14 : ¬ wrq = u) : sh_M md_Shared_giveBack [.ref q, .ref u, .int m] (n, h) (.inr (3, h)) := by
  refine sh_iload_n dc_Shared_giveBack_0 rfl rfl ?_
  refine sh_if_ne (tgt := 12) dc_Shared_giveBack_1 (by decide) (fun _ => ?_) (fun z => absurd z c0_1)
  refine sh_aload_n dc_Shared_giveBack_12 rfl rfl ?_
  refine sh_aload_n dc_Shared_giveBack_13 rfl rfl ?_
  exact sh_callT (sh_virt (As := [.ref u]) dc_Shared_giveBack_14 lm_Shared_stopWriting ln_Shared_57 wd_664 wd_20 rfl rfl (Nat.le_of_ble_eq_true rfl) f_q rfl) (pt_Shared_stopWriting_4 f_q c1_14) ⟨(Nat.le_of_ble_eq_true rfl), (Nat.le_of_ble_eq_true rfl), (Nat.le_of_ble_eq_true rfl), (Nat.le_of_ble_eq_true rfl)⟩ rfl
theorem pt_Shared_giveBack_5 {n : Nat} {h : sh_Hp} {q : Nat} {u : Nat} {m : Int32} {kd : Int32} {wt : Nat} {ws : UInt64} {wc : Int32} {rd : Nat} {wr : Option Nat} {dp : Int32} {rl : List Value} {t : Int32} {pr : UInt64} {fl : Int32} {oc : Int32} {pl : Option Nat} {mo : Int32} {he : Int32} {en : UInt64} {si : UInt64} {dd : Int32} {od : Int32} {tb : Int32} {x8_0_6 : Int32} {x31_1_6 : Int32} (f_q : h q = some (false, 7, [.int kd, .ref wt, .double ws, .int wc, .ref rd, va_rf wr, .int dp])) (f_rd : h rd = some (true, 0, rl)) (f_u : h u = some (false, 1, [.int t, .double pr, .int fl, .int oc, va_rf pl, .int mo, .int he, .double en, .double si, .int dd, .int od, .int tb])) (n_q_rd : q ≠ rd) (n_u_rd : u ≠ rd) (c0_1 : m = 0) (v1_6 : ¬ t < 0) (v2_6 : rl[t.toNatClampNeg]? = some (.int x8_0_6)) (c3_6 : 0 < x8_0_6) (v4_6 : rl[t.toNatClampNeg]? = some (.int x31_1_6)) : sh_M md_Shared_giveBack [.ref q, .ref u, .int m] (n, h) (.inl (none, (n, (sh_up h rd (true, 0, (rl.set t.toNatClampNeg (.int (x31_1_6 - 1)))))))) := by
  refine sh_iload_n dc_Shared_giveBack_0 rfl rfl ?_
  refine sh_if_ne (tgt := 12) dc_Shared_giveBack_1 (by decide) (fun z => absurd c0_1 z) (fun _ => ?_)
  refine sh_aload_n dc_Shared_giveBack_4 rfl rfl ?_
  refine sh_aload_n dc_Shared_giveBack_5 rfl rfl ?_
  refine sh_callR (sh_virt (As := [.ref u]) dc_Shared_giveBack_6 lm_Shared_stopReading ln_Shared_53 wd_657 wd_19 rfl rfl (Nat.le_of_ble_eq_true rfl) f_q rfl) (pt_Shared_stopReading_1 (wr := wr) (pl := pl) f_q f_rd f_u n_q_rd n_u_rd v1_6 v2_6 c3_6 v4_6) ⟨(Nat.le_of_ble_eq_true rfl), (Nat.le_of_ble_eq_true rfl), (Nat.le_of_ble_eq_true rfl), (Nat.le_of_ble_eq_true rfl)⟩ ?_
  show sh_V _ (_, _, []) (n, (sh_up h rd (true, 0, (rl.set t.toNatClampNeg (.int (x31_1_6 - 1)))))) _ _ _
  have f_q_1 : (sh_up h rd (true, 0, (rl.set t.toNatClampNeg (.int (x31_1_6 - 1))))) q = some (false, 7, [.int kd, .ref wt, .double ws, .int wc, .ref rd, va_rf wr, .int dp]) := ((sh_up_ne n_q_rd).trans f_q)
  have f_rd_1 : (sh_up h rd (true, 0, (rl.set t.toNatClampNeg (.int (x31_1_6 - 1))))) rd = some (true, 0, (rl.set t.toNatClampNeg (.int (x31_1_6 - 1)))) := (sh_up_eq _ _ _)
  have f_u_1 : (sh_up h rd (true, 0, (rl.set t.toNatClampNeg (.int (x31_1_6 - 1))))) u = some (false, 1, [.int t, .double pr, .int fl, .int oc, va_rf pl, .int mo, .int he, .double en, .double si, .int dd, .int od, .int tb]) := ((sh_up_ne n_u_rd).trans f_u)
  refine sh_goto_ (tgt := 17) dc_Shared_giveBack_9 (by decide) ?_
  exact sh_return dc_Shared_giveBack_17 rfl (by decide) (by decide)
theorem pt_Shared_giveBack_6 {n : Nat} {h : sh_Hp} {q : Nat} {u : Nat} {m : Int32} {kd : Int32} {wt : Nat} {ws : UInt64} {wc : Int32} {rd : Nat} {wr : Option Nat} {dp : Int32} {rl : List Value} {t : Int32} {pr : UInt64} {fl : Int32} {oc : Int32} {pl : Option Nat} {mo : Int32} {he : Int32} {en : UInt64} {si : UInt64} {dd : Int32} {od : Int32} {tb : Int32} {x8_0_6 : Int32} (f_q : h q = some (false, 7, [.int kd, .ref wt, .double ws, .int wc, .ref rd, va_rf wr, .int dp])) (f_rd : h rd = some (true, 0, rl)) (f_u : h u = some (false, 1, [.int t, .double pr, .int fl, .int oc, va_rf pl, .int mo, .int he, .double en, .double si, .int dd, .int od, .int tb])) (c0_1 : m = 0) (v1_6 : ¬ t < 0) (v2_6 : rl[t.toNatClampNeg]? = some (.int x8_0_6)) (c3_6 : ¬ 0 < x8_0_6) : sh_M md_Shared_giveBack [.ref q, .ref u, .int m] (n, h) (.inr (3, h)) := by
  refine sh_iload_n dc_Shared_giveBack_0 rfl rfl ?_
  refine sh_if_ne (tgt := 12) dc_Shared_giveBack_1 (by decide) (fun z => absurd c0_1 z) (fun _ => ?_)
  refine sh_aload_n dc_Shared_giveBack_4 rfl rfl ?_
  refine sh_aload_n dc_Shared_giveBack_5 rfl rfl ?_
  exact sh_callT (sh_virt (As := [.ref u]) dc_Shared_giveBack_6 lm_Shared_stopReading ln_Shared_53 wd_657 wd_19 rfl rfl (Nat.le_of_ble_eq_true rfl) f_q rfl) (pt_Shared_stopReading_2 (wr := wr) (pl := pl) f_q f_rd f_u v1_6 v2_6 c3_6) ⟨(Nat.le_of_ble_eq_true rfl), (Nat.le_of_ble_eq_true rfl), (Nat.le_of_ble_eq_true rfl), (Nat.le_of_ble_eq_true rfl)⟩ rfl
theorem pt_Shared_holdOf_1 {n : Nat} {h : sh_Hp} {q : Nat} {u : Nat} {kd : Int32} {wt : Nat} {ws : UInt64} {wc : Int32} {rd : Nat} {dp : Int32} {rl : List Value} {t : Int32} {pr : UInt64} {fl : Int32} {oc : Int32} {pl : Option Nat} {mo : Int32} {he : Int32} {en : UInt64} {si : UInt64} {dd : Int32} {od : Int32} {tb : Int32} {x24_0 : Int32} (f_q : h q = some (false, 7, [.int kd, .ref wt, .double ws, .int wc, .ref rd, .null, .int dp])) (f_rd : h rd = some (true, 0, rl)) (f_u : h u = some (false, 1, [.int t, .double pr, .int fl, .int oc, va_rf pl, .int mo, .int he, .double en, .double si, .int dd, .int od, .int tb])) (v0_24 : ¬ t < 0) (v1_24 : rl[t.toNatClampNeg]? = some (.int x24_0)) : sh_M md_Shared_holdOf [.ref q, .ref u] (n, h) (.inl (some (.int (0 + x24_0)), (n, h))) := by
  refine sh_aload_n dc_Shared_holdOf_0 rfl rfl ?_
  refine sh_get (k := 5) dc_Shared_holdOf_1 f_q rfl (by decide) fl_Shared_21 rfl ?_
  refine sh_aload_n dc_Shared_holdOf_4 rfl rfl ?_
  refine sh_acmp_ne (rx := none) (ry := (some u)) (tgt := 15) dc_Shared_holdOf_5 (by decide) (fun _ => ?_) (fun z => absurd z (fun z => by cases z))
  refine sh_iconst (v := 0) dc_Shared_holdOf_15 (by decide) ?_
  refine sh_aload_n dc_Shared_holdOf_16 rfl rfl ?_
  refine sh_get (k := 4) dc_Shared_holdOf_17 f_q rfl (by decide) fl_Shared_9 rfl ?_
  refine sh_aload_n dc_Shared_holdOf_20 rfl rfl ?_
  refine sh_get (k := 0) dc_Shared_holdOf_21 f_u rfl (by decide) fl_Shared_15 rfl ?_
  refine sh_iald dc_Shared_holdOf_24 f_rd rfl v0_24 v1_24 ?_
  refine sh_iadd dc_Shared_holdOf_25 ?_
  exact sh_ireturn dc_Shared_holdOf_26 rfl rfl (by decide) (by decide)
theorem pt_Shared_holdOf_2 {n : Nat} {h : sh_Hp} {q : Nat} {u : Nat} {kd : Int32} {wt : Nat} {ws : UInt64} {wc : Int32} {rd : Nat} {wrq : Nat} {dp : Int32} {rl : List Value} {t : Int32} {pr : UInt64} {fl : Int32} {oc : Int32} {pl : Option Nat} {mo : Int32} {he : Int32} {en : UInt64} {si : UInt64} {dd : Int32} {od : Int32} {tb : Int32} {x24_0 : Int32} (f_q : h q = some (false, 7, [.int kd, .ref wt, .double ws, .int wc, .ref rd, .ref wrq, .int dp])) (f_rd : h rd = some (true, 0, rl)) (f_u : h u = some (false, 1, [.int t, .double pr, .int fl, .int oc, va_rf pl, .int mo, .int he, .double en, .double si, .int dd, .int od, .int tb])) (c0_5 : wrq = u) (v1_24 : ¬ t < 0) (v2_24 : rl[t.toNatClampNeg]? = some (.int x24_0)) : sh_M md_Shared_holdOf [.ref q, .ref u] (n, h) (.inl (some (.int (dp + x24_0)), (n, h))) := by
  refine sh_aload_n dc_Shared_holdOf_0 rfl rfl ?_
  refine sh_get (k := 5) dc_Shared_holdOf_1 f_q rfl (by decide) fl_Shared_21 rfl ?_
  refine sh_aload_n dc_Shared_holdOf_4 rfl rfl ?_
  refine sh_acmp_ne (rx := (some wrq)) (ry := (some u)) (tgt := 15) dc_Shared_holdOf_5 (by decide) (fun z => absurd (congrArg some c0_5) z) (fun _ => ?_)
  refine sh_aload_n dc_Shared_holdOf_8 rfl rfl ?_
  refine sh_get (k := 6) dc_Shared_holdOf_9 f_q rfl (by decide) fl_Shared_50 rfl ?_
  refine sh_goto_ (tgt := 16) dc_Shared_holdOf_12 (by decide) ?_
  refine sh_aload_n dc_Shared_holdOf_16 rfl rfl ?_
  refine sh_get (k := 4) dc_Shared_holdOf_17 f_q rfl (by decide) fl_Shared_9 rfl ?_
  refine sh_aload_n dc_Shared_holdOf_20 rfl rfl ?_
  refine sh_get (k := 0) dc_Shared_holdOf_21 f_u rfl (by decide) fl_Shared_15 rfl ?_
  refine sh_iald dc_Shared_holdOf_24 f_rd rfl v1_24 v2_24 ?_
  refine sh_iadd dc_Shared_holdOf_25 ?_
  exact sh_ireturn dc_Shared_holdOf_26 rfl rfl (by decide) (by decide)
theorem pt_Shared_holdOf_3 {n : Nat} {h : sh_Hp} {q : Nat} {u : Nat} {kd : Int32} {wt : Nat} {ws : UInt64} {wc : Int32} {rd : Nat} {wrq : Nat} {dp : Int32} {rl : List Value} {t : Int32} {pr : UInt64} {fl : Int32} {oc : Int32} {pl : Option Nat} {mo : Int32} {he : Int32} {en : UInt64} {si : UInt64} {dd : Int32} {od : Int32} {tb : Int32} {x24_0 : Int32} (f_q : h q = some (false, 7, [.int kd, .ref wt, .double ws, .int wc, .ref rd, .ref wrq, .int dp])) (f_rd : h rd = some (true, 0, rl)) (f_u : h u = some (false, 1, [.int t, .double pr, .int fl, .int oc, va_rf pl, .int mo, .int he, .double en, .double si, .int dd, .int od, .int tb])) (c0_5 : ¬ wrq = u) (v1_24 : ¬ t < 0) (v2_24 : rl[t.toNatClampNeg]? = some (.int x24_0)) : sh_M md_Shared_holdOf [.ref q, .ref u] (n, h) (.inl (some (.int (0 + x24_0)), (n, h))) := by
  refine sh_aload_n dc_Shared_holdOf_0 rfl rfl ?_
  refine sh_get (k := 5) dc_Shared_holdOf_1 f_q rfl (by decide) fl_Shared_21 rfl ?_
  refine sh_aload_n dc_Shared_holdOf_4 rfl rfl ?_
  refine sh_acmp_ne (rx := (some wrq)) (ry := (some u)) (tgt := 15) dc_Shared_holdOf_5 (by decide) (fun _ => ?_) (fun z => absurd z (fun z => c0_5 (Option.some.inj z)))
  refine sh_iconst (v := 0) dc_Shared_holdOf_15 (by decide) ?_
  refine sh_aload_n dc_Shared_holdOf_16 rfl rfl ?_
  refine sh_get (k := 4) dc_Shared_holdOf_17 f_q rfl (by decide) fl_Shared_9 rfl ?_
  refine sh_aload_n dc_Shared_holdOf_20 rfl rfl ?_
  refine sh_get (k := 0) dc_Shared_holdOf_21 f_u rfl (by decide) fl_Shared_15 rfl ?_
  refine sh_iald dc_Shared_holdOf_24 f_rd rfl v1_24 v2_24 ?_
  refine sh_iadd dc_Shared_holdOf_25 ?_
  exact sh_ireturn dc_Shared_holdOf_26 rfl rfl (by decide) (by decide)
theorem pt_Gate_checkWish_Lock_1 {n : Nat} {h : sh_Hp} {q : Nat} {u : Nat} {m : Int32} {kd : Int32} {wt : Nat} {ws : UInt64} {wc : Int32} {ow : Option Nat} {dp : Int32} (f_q : h q = some (false, 4, [.int kd, .ref wt, .double ws, .int wc, va_rf ow, .int dp])) : sh_M md_Gate_checkWish [.ref q, .ref u, .int m] (n, h) (.inl (none, (n, h))) := by
  exact sh_return dc_Gate_checkWish_0 rfl (by decide) (by decide)
theorem pt_Gate_checkWish_Semaphore_1 {n : Nat} {h : sh_Hp} {q : Nat} {u : Nat} {m : Int32} {kd : Int32} {wt : Nat} {ws : UInt64} {wc : Int32} {pm : Int32} (f_q : h q = some (false, 5, [.int kd, .ref wt, .double ws, .int wc, .int pm])) : sh_M md_Gate_checkWish [.ref q, .ref u, .int m] (n, h) (.inl (none, (n, h))) := by
  exact sh_return dc_Gate_checkWish_0 rfl (by decide) (by decide)
theorem pt_Gate_checkWish_Latch_1 {n : Nat} {h : sh_Hp} {q : Nat} {u : Nat} {m : Int32} {kd : Int32} {wt : Nat} {ws : UInt64} {wc : Int32} {ct : Int32} (f_q : h q = some (false, 6, [.int kd, .ref wt, .double ws, .int wc, .int ct])) : sh_M md_Gate_checkWish [.ref q, .ref u, .int m] (n, h) (.inl (none, (n, h))) := by
  exact sh_return dc_Gate_checkWish_0 rfl (by decide) (by decide)
theorem pt_Sync_addWaited_Lock_1 {n : Nat} {h : sh_Hp} {q : Nat} {x : UInt64} {kd : Int32} {wt : Nat} {ws : UInt64} {wc : Int32} {ow : Option Nat} {dp : Int32} (f_q : h q = some (false, 4, [.int kd, .ref wt, .double ws, .int wc, va_rf ow, .int dp])) (v0_6 : vf_n64 (FP.dadd ws x)) : sh_M md_Sync_addWaited [.ref q, .double x] (n, h) (.inl (none, (n, (sh_up h q (false, 4, [.int kd, .ref wt, .double (FP.dadd ws x), .int (wc + 1), va_rf ow, .int dp]))))) := by
  refine sh_aload_n dc_Sync_addWaited_0 rfl rfl ?_
  refine sh_aload_n dc_Sync_addWaited_1 rfl rfl ?_
  refine sh_get (k := 2) dc_Sync_addWaited_2 f_q rfl (by decide) fl_Sync_49 rfl ?_
  refine sh_dload_n dc_Sync_addWaited_5 rfl rfl ?_
  refine sh_dadd dc_Sync_addWaited_6 v0_6 ?_
  refine sh_put (k := 2) dc_Sync_addWaited_7 f_q rfl (by decide) fl_Sync_49 rfl pd_D rfl rfl ?_
  show sh_V _ _ (n, (sh_up h q (false, 4, [.int kd, .ref wt, .double (FP.dadd ws x), .int wc, va_rf ow, .int dp]))) _ _ _
  have f_q_1 : (sh_up h q (false, 4, [.int kd, .ref wt, .double (FP.dadd ws x), .int wc, va_rf ow, .int dp])) q = some (false, 4, [.int kd, .ref wt, .double (FP.dadd ws x), .int wc, va_rf ow, .int dp]) := (sh_up_eq _ _ _)
  refine sh_aload_n dc_Sync_addWaited_10 rfl rfl ?_
  refine sh_dup dc_Sync_addWaited_11 rfl ?_
  refine sh_get (k := 3) dc_Sync_addWaited_12 f_q_1 rfl (by decide) fl_Sync_52 rfl ?_
  refine sh_iconst (v := 1) dc_Sync_addWaited_15 (by decide) ?_
  refine sh_iadd dc_Sync_addWaited_16 ?_
  refine sh_put (k := 3) dc_Sync_addWaited_17 f_q_1 rfl (by decide) fl_Sync_52 rfl pd_I rfl rfl ?_
  refine sh_Vh (sh_up_up _ _ _ _) ?_
  show sh_V _ _ (n, (sh_up h q (false, 4, [.int kd, .ref wt, .double (FP.dadd ws x), .int (wc + 1), va_rf ow, .int dp]))) _ _ _
  have f_q_2 : (sh_up h q (false, 4, [.int kd, .ref wt, .double (FP.dadd ws x), .int (wc + 1), va_rf ow, .int dp])) q = some (false, 4, [.int kd, .ref wt, .double (FP.dadd ws x), .int (wc + 1), va_rf ow, .int dp]) := (sh_up_eq _ _ _)
  exact sh_return dc_Sync_addWaited_20 rfl (by decide) (by decide)
theorem pt_Sync_amount_Lock_1 {n : Nat} {h : sh_Hp} {q : Nat} {kd : Int32} {wt : Nat} {ws : UInt64} {wc : Int32} {ow : Option Nat} {dp : Int32} (f_q : h q = some (false, 4, [.int kd, .ref wt, .double ws, .int wc, va_rf ow, .int dp])) : sh_M md_Sync_amount [.ref q] (n, h) (.inl (some (.int 0), (n, h))) := by
  refine sh_iconst (v := 0) dc_Sync_amount_0 (by decide) ?_
  exact sh_ireturn dc_Sync_amount_1 rfl rfl (by decide) (by decide)
theorem pt_Sync_enqueue_Lock_1 {n : Nat} {h : sh_Hp} {q : Nat} {u : Nat} {m : Int32} {a : UInt64} {kd : Int32} {wt : Nat} {ws : UInt64} {wc : Int32} {ow : Option Nat} {dp : Int32} {rw : Nat} {cn : Int32} {rl : List Value} {t : Int32} {pr : UInt64} {fl : Int32} {oc : Int32} {pl : Option Nat} {mo : Int32} {he : Int32} {en : UInt64} {si : UInt64} {dd : Int32} {od : Int32} {tb : Int32} (f_q : h q = some (false, 4, [.int kd, .ref wt, .double ws, .int wc, va_rf ow, .int dp])) (f_wt : h wt = some (false, 2, [.ref rw, .int cn])) (f_rw : h rw = some (true, 4, rl)) (f_u : h u = some (false, 1, [.int t, .double pr, .int fl, .int oc, va_rf pl, .int mo, .int he, .double en, .double si, .int dd, .int od, .int tb])) (n_q_u : q ≠ u) (n_rw_u : rw ≠ u) (n_wt_u : wt ≠ u) (c0_5 : (Int32.ofNat rl.length) ≤ cn) : sh_M md_Sync_enqueue [.ref q, .ref u, .int m, .double a] (n, h) (.inl (none, (n, (sh_up h u (false, 1, [.int t, .double pr, .int fl, .int 0, .ref q, .int m, .int he, .double en, .double a, .int dd, .int od, .int tb]))))) := by
  refine sh_aload_n dc_Sync_enqueue_0 rfl rfl ?_
  refine sh_get (k := 1) dc_Sync_enqueue_1 f_q rfl (by decide) fl_Sync_18 rfl ?_
  refine sh_aload_n dc_Sync_enqueue_4 rfl rfl ?_
  refine sh_callR (sh_virt (As := [.ref u]) dc_Sync_enqueue_5 lm_Waiters_add ln_Sync_22 wd_615 wd_16 rfl rfl (Nat.le_of_ble_eq_true rfl) f_wt rfl) (pt_Waiters_add_1 (pl := pl) f_wt f_rw f_u c0_5) ⟨(Nat.le_of_ble_eq_true rfl), (Nat.le_of_ble_eq_true rfl), (Nat.le_of_ble_eq_true rfl), (Nat.le_of_ble_eq_true rfl)⟩ ?_
  show sh_V _ (_, _, []) (n, h) _ _ _
  refine sh_aload_n dc_Sync_enqueue_8 rfl rfl ?_
  refine sh_aload_n dc_Sync_enqueue_9 rfl rfl ?_
  refine sh_put (k := 4) dc_Sync_enqueue_10 f_u rfl (by decide) fl_Sync_26 rfl pd_LSync rfl rfl ?_
  show sh_V _ _ (n, (sh_up h u (false, 1, [.int t, .double pr, .int fl, .int oc, .ref q, .int mo, .int he, .double en, .double si, .int dd, .int od, .int tb]))) _ _ _
  have f_q_1 : (sh_up h u (false, 1, [.int t, .double pr, .int fl, .int oc, .ref q, .int mo, .int he, .double en, .double si, .int dd, .int od, .int tb])) q = some (false, 4, [.int kd, .ref wt, .double ws, .int wc, va_rf ow, .int dp]) := ((sh_up_ne n_q_u).trans f_q)
  have f_wt_1 : (sh_up h u (false, 1, [.int t, .double pr, .int fl, .int oc, .ref q, .int mo, .int he, .double en, .double si, .int dd, .int od, .int tb])) wt = some (false, 2, [.ref rw, .int cn]) := ((sh_up_ne n_wt_u).trans f_wt)
  have f_rw_1 : (sh_up h u (false, 1, [.int t, .double pr, .int fl, .int oc, .ref q, .int mo, .int he, .double en, .double si, .int dd, .int od, .int tb])) rw = some (true, 4, rl) := ((sh_up_ne n_rw_u).trans f_rw)
  have f_u_1 : (sh_up h u (false, 1, [.int t, .double pr, .int fl, .int oc, .ref q, .int mo, .int he, .double en, .double si, .int dd, .int od, .int tb])) u = some (false, 1, [.int t, .double pr, .int fl, .int oc, .ref q, .int mo, .int he, .double en, .double si, .int dd, .int od, .int tb]) := (sh_up_eq _ _ _)
  refine sh_aload_n dc_Sync_enqueue_13 rfl rfl ?_
  refine sh_iload_n dc_Sync_enqueue_14 rfl rfl ?_
  refine sh_put (k := 5) dc_Sync_enqueue_15 f_u_1 rfl (by decide) fl_Sync_32 rfl pd_I rfl rfl ?_
  refine sh_Vh (sh_up_up _ _ _ _) ?_
  show sh_V _ _ (n, (sh_up h u (false, 1, [.int t, .double pr, .int fl, .int oc, .ref q, .int m, .int he, .double en, .double si, .int dd, .int od, .int tb]))) _ _ _
  have f_q_2 : (sh_up h u (false, 1, [.int t, .double pr, .int fl, .int oc, .ref q, .int m, .int he, .double en, .double si, .int dd, .int od, .int tb])) q = some (false, 4, [.int kd, .ref wt, .double ws, .int wc, va_rf ow, .int dp]) := ((sh_up_ne n_q_u).trans f_q)
  have f_wt_2 : (sh_up h u (false, 1, [.int t, .double pr, .int fl, .int oc, .ref q, .int m, .int he, .double en, .double si, .int dd, .int od, .int tb])) wt = some (false, 2, [.ref rw, .int cn]) := ((sh_up_ne n_wt_u).trans f_wt)
  have f_rw_2 : (sh_up h u (false, 1, [.int t, .double pr, .int fl, .int oc, .ref q, .int m, .int he, .double en, .double si, .int dd, .int od, .int tb])) rw = some (true, 4, rl) := ((sh_up_ne n_rw_u).trans f_rw)
  have f_u_2 : (sh_up h u (false, 1, [.int t, .double pr, .int fl, .int oc, .ref q, .int m, .int he, .double en, .double si, .int dd, .int od, .int tb])) u = some (false, 1, [.int t, .double pr, .int fl, .int oc, .ref q, .int m, .int he, .double en, .double si, .int dd, .int od, .int tb]) := (sh_up_eq _ _ _)
  refine sh_aload_n dc_Sync_enqueue_18 rfl rfl ?_
  refine sh_dload_n dc_Sync_enqueue_19 rfl rfl ?_
  refine sh_put (k := 8) dc_Sync_enqueue_20 f_u_2 rfl (by decide) fl_Sync_35 rfl pd_D rfl rfl ?_
  refine sh_Vh (sh_up_up _ _ _ _) ?_
  show sh_V _ _ (n, (sh_up h u (false, 1, [.int t, .double pr, .int fl, .int oc, .ref q, .int m, .int he, .double en, .double a, .int dd, .int od, .int tb]))) _ _ _
  have f_q_3 : (sh_up h u (false, 1, [.int t, .double pr, .int fl, .int oc, .ref q, .int m, .int he, .double en, .double a, .int dd, .int od, .int tb])) q = some (false, 4, [.int kd, .ref wt, .double ws, .int wc, va_rf ow, .int dp]) := ((sh_up_ne n_q_u).trans f_q)
  have f_wt_3 : (sh_up h u (false, 1, [.int t, .double pr, .int fl, .int oc, .ref q, .int m, .int he, .double en, .double a, .int dd, .int od, .int tb])) wt = some (false, 2, [.ref rw, .int cn]) := ((sh_up_ne n_wt_u).trans f_wt)
  have f_rw_3 : (sh_up h u (false, 1, [.int t, .double pr, .int fl, .int oc, .ref q, .int m, .int he, .double en, .double a, .int dd, .int od, .int tb])) rw = some (true, 4, rl) := ((sh_up_ne n_rw_u).trans f_rw)
  have f_u_3 : (sh_up h u (false, 1, [.int t, .double pr, .int fl, .int oc, .ref q, .int m, .int he, .double en, .double a, .int dd, .int od, .int tb])) u = some (false, 1, [.int t, .double pr, .int fl, .int oc, .ref q, .int m, .int he, .double en, .double a, .int dd, .int od, .int tb]) := (sh_up_eq _ _ _)
  refine sh_aload_n dc_Sync_enqueue_23 rfl rfl ?_
  refine sh_iconst (v := 0) dc_Sync_enqueue_24 (by decide) ?_
  refine sh_put (k := 3) dc_Sync_enqueue_25 f_u_3 rfl (by decide) fl_Sync_39 rfl pd_I rfl rfl ?_
  refine sh_Vh (sh_up_up _ _ _ _) ?_
  show sh_V _ _ (n, (sh_up h u (false, 1, [.int t, .double pr, .int fl, .int 0, .ref q, .int m, .int he, .double en, .double a, .int dd, .int od, .int tb]))) _ _ _
  have f_q_4 : (sh_up h u (false, 1, [.int t, .double pr, .int fl, .int 0, .ref q, .int m, .int he, .double en, .double a, .int dd, .int od, .int tb])) q = some (false, 4, [.int kd, .ref wt, .double ws, .int wc, va_rf ow, .int dp]) := ((sh_up_ne n_q_u).trans f_q)
  have f_wt_4 : (sh_up h u (false, 1, [.int t, .double pr, .int fl, .int 0, .ref q, .int m, .int he, .double en, .double a, .int dd, .int od, .int tb])) wt = some (false, 2, [.ref rw, .int cn]) := ((sh_up_ne n_wt_u).trans f_wt)
  have f_rw_4 : (sh_up h u (false, 1, [.int t, .double pr, .int fl, .int 0, .ref q, .int m, .int he, .double en, .double a, .int dd, .int od, .int tb])) rw = some (true, 4, rl) := ((sh_up_ne n_rw_u).trans f_rw)
  have f_u_4 : (sh_up h u (false, 1, [.int t, .double pr, .int fl, .int 0, .ref q, .int m, .int he, .double en, .double a, .int dd, .int od, .int tb])) u = some (false, 1, [.int t, .double pr, .int fl, .int 0, .ref q, .int m, .int he, .double en, .double a, .int dd, .int od, .int tb]) := (sh_up_eq _ _ _)
  exact sh_return dc_Sync_enqueue_28 rfl (by decide) (by decide)
theorem pt_Sync_enqueue_Lock_2 {n : Nat} {h : sh_Hp} {q : Nat} {u : Nat} {m : Int32} {a : UInt64} {kd : Int32} {wt : Nat} {ws : UInt64} {wc : Int32} {ow : Option Nat} {dp : Int32} {rw : Nat} {cn : Int32} {rl : List Value} {t : Int32} {pr : UInt64} {fl : Int32} {oc : Int32} {pl : Option Nat} {mo : Int32} {he : Int32} {en : UInt64} {si : UInt64} {dd : Int32} {od : Int32} {tb : Int32} {w21_5 : Value} (f_q : h q = some (false, 4, [.int kd, .ref wt, .double ws, .int wc, va_rf ow, .int dp])) (f_wt : h wt = some (false, 2, [.ref rw, .int cn])) (f_rw : h rw = some (true, 4, rl)) (f_u : h u = some (false, 1, [.int t, .double pr, .int fl, .int oc, va_rf pl, .int mo, .int he, .double en, .double si, .int dd, .int od, .int tb])) (n_q_rw : q ≠ rw) (n_q_u : q ≠ u) (n_q_wt : q ≠ wt) (n_rw_u : rw ≠ u) (n_rw_wt : rw ≠ wt) (n_u_rw : u ≠ rw) (n_u_wt : u ≠ wt) (n_wt_rw : wt ≠ rw) (n_wt_u : wt ≠ u) (c0_5 : ¬ (Int32.ofNat rl.length) ≤ cn) (v1_5 : ¬ cn < 0) (v2_5 : rl[cn.toNatClampNeg]? = some w21_5) : sh_M md_Sync_enqueue [.ref q, .ref u, .int m, .double a] (n, h) (.inl (none, (n, (sh_up (sh_up (sh_up h rw (true, 4, (rl.set cn.toNatClampNeg (.ref u)))) wt (false, 2, [.ref rw, .int (cn + 1)])) u (false, 1, [.int t, .double pr, .int fl, .int 0, .ref q, .int m, .int he, .double en, .double a, .int dd, .int od, .int tb]))))) := by
  refine sh_aload_n dc_Sync_enqueue_0 rfl rfl ?_
  refine sh_get (k := 1) dc_Sync_enqueue_1 f_q rfl (by decide) fl_Sync_18 rfl ?_
  refine sh_aload_n dc_Sync_enqueue_4 rfl rfl ?_
  refine sh_callR (sh_virt (As := [.ref u]) dc_Sync_enqueue_5 lm_Waiters_add ln_Sync_22 wd_615 wd_16 rfl rfl (Nat.le_of_ble_eq_true rfl) f_wt rfl) (pt_Waiters_add_2 (pl := pl) f_wt f_rw f_u n_wt_rw n_rw_wt n_u_wt n_u_rw c0_5 v1_5 v2_5) ⟨(Nat.le_of_ble_eq_true rfl), (Nat.le_of_ble_eq_true rfl), (Nat.le_of_ble_eq_true rfl), (Nat.le_of_ble_eq_true rfl)⟩ ?_
  show sh_V _ (_, _, []) (n, (sh_up (sh_up h rw (true, 4, (rl.set cn.toNatClampNeg (.ref u)))) wt (false, 2, [.ref rw, .int (cn + 1)]))) _ _ _
  have f_q_1 : (sh_up (sh_up h rw (true, 4, (rl.set cn.toNatClampNeg (.ref u)))) wt (false, 2, [.ref rw, .int (cn + 1)])) q = some (false, 4, [.int kd, .ref wt, .double ws, .int wc, va_rf ow, .int dp]) := ((sh_up_ne n_q_wt).trans ((sh_up_ne n_q_rw).trans f_q))
  have f_wt_1 : (sh_up (sh_up h rw (true, 4, (rl.set cn.toNatClampNeg (.ref u)))) wt (false, 2, [.ref rw, .int (cn + 1)])) wt = some (false, 2, [.ref rw, .int (cn + 1)]) := (sh_up_eq _ _ _)
  have f_rw_1 : (sh_up (sh_up h rw (true, 4, (rl.set cn.toNatClampNeg (.ref u)))) wt (false, 2, [.ref rw, .int (cn + 1)])) rw = some (true, 4, (rl.set cn.toNatClampNeg (.ref u))) := ((sh_up_ne n_rw_wt).trans (sh_up_eq _ _ _))
  have f_u_1 : (sh_up (sh_up h rw (true, 4, (rl.set cn.toNatClampNeg (.ref u)))) wt (false, 2, [.ref rw, .int (cn + 1)])) u = some (false, 1, [.int t, .double pr, .int fl, .int oc, va_rf pl, .int mo, .int he, .double en, .double si, .int dd, .int od, .int tb]) := ((sh_up_ne n_u_wt).trans ((sh_up_ne n_u_rw).trans f_u))
  refine sh_aload_n dc_Sync_enqueue_8 rfl rfl ?_
  refine sh_aload_n dc_Sync_enqueue_9 rfl rfl ?_
  refine sh_put (k := 4) dc_Sync_enqueue_10 f_u_1 rfl (by decide) fl_Sync_26 rfl pd_LSync rfl rfl ?_
  show sh_V _ _ (n, (sh_up (sh_up (sh_up h rw (true, 4, (rl.set cn.toNatClampNeg (.ref u)))) wt (false, 2, [.ref rw, .int (cn + 1)])) u (false, 1, [.int t, .double pr, .int fl, .int oc, .ref q, .int mo, .int he, .double en, .double si, .int dd, .int od, .int tb]))) _ _ _
  have f_q_2 : (sh_up (sh_up (sh_up h rw (true, 4, (rl.set cn.toNatClampNeg (.ref u)))) wt (false, 2, [.ref rw, .int (cn + 1)])) u (false, 1, [.int t, .double pr, .int fl, .int oc, .ref q, .int mo, .int he, .double en, .double si, .int dd, .int od, .int tb])) q = some (false, 4, [.int kd, .ref wt, .double ws, .int wc, va_rf ow, .int dp]) := ((sh_up_ne n_q_u).trans ((sh_up_ne n_q_wt).trans ((sh_up_ne n_q_rw).trans f_q)))
  have f_wt_2 : (sh_up (sh_up (sh_up h rw (true, 4, (rl.set cn.toNatClampNeg (.ref u)))) wt (false, 2, [.ref rw, .int (cn + 1)])) u (false, 1, [.int t, .double pr, .int fl, .int oc, .ref q, .int mo, .int he, .double en, .double si, .int dd, .int od, .int tb])) wt = some (false, 2, [.ref rw, .int (cn + 1)]) := ((sh_up_ne n_wt_u).trans (sh_up_eq _ _ _))
  have f_rw_2 : (sh_up (sh_up (sh_up h rw (true, 4, (rl.set cn.toNatClampNeg (.ref u)))) wt (false, 2, [.ref rw, .int (cn + 1)])) u (false, 1, [.int t, .double pr, .int fl, .int oc, .ref q, .int mo, .int he, .double en, .double si, .int dd, .int od, .int tb])) rw = some (true, 4, (rl.set cn.toNatClampNeg (.ref u))) := ((sh_up_ne n_rw_u).trans ((sh_up_ne n_rw_wt).trans (sh_up_eq _ _ _)))
  have f_u_2 : (sh_up (sh_up (sh_up h rw (true, 4, (rl.set cn.toNatClampNeg (.ref u)))) wt (false, 2, [.ref rw, .int (cn + 1)])) u (false, 1, [.int t, .double pr, .int fl, .int oc, .ref q, .int mo, .int he, .double en, .double si, .int dd, .int od, .int tb])) u = some (false, 1, [.int t, .double pr, .int fl, .int oc, .ref q, .int mo, .int he, .double en, .double si, .int dd, .int od, .int tb]) := (sh_up_eq _ _ _)
  refine sh_aload_n dc_Sync_enqueue_13 rfl rfl ?_
  refine sh_iload_n dc_Sync_enqueue_14 rfl rfl ?_
  refine sh_put (k := 5) dc_Sync_enqueue_15 f_u_2 rfl (by decide) fl_Sync_32 rfl pd_I rfl rfl ?_
  refine sh_Vh (sh_up_up _ _ _ _) ?_
  show sh_V _ _ (n, (sh_up (sh_up (sh_up h rw (true, 4, (rl.set cn.toNatClampNeg (.ref u)))) wt (false, 2, [.ref rw, .int (cn + 1)])) u (false, 1, [.int t, .double pr, .int fl, .int oc, .ref q, .int m, .int he, .double en, .double si, .int dd, .int od, .int tb]))) _ _ _
  have f_q_3 : (sh_up (sh_up (sh_up h rw (true, 4, (rl.set cn.toNatClampNeg (.ref u)))) wt (false, 2, [.ref rw, .int (cn + 1)])) u (false, 1, [.int t, .double pr, .int fl, .int oc, .ref q, .int m, .int he, .double en, .double si, .int dd, .int od, .int tb])) q = some (false, 4, [.int kd, .ref wt, .double ws, .int wc, va_rf ow, .int dp]) := ((sh_up_ne n_q_u).trans ((sh_up_ne n_q_wt).trans ((sh_up_ne n_q_rw).trans f_q)))
  have f_wt_3 : (sh_up (sh_up (sh_up h rw (true, 4, (rl.set cn.toNatClampNeg (.ref u)))) wt (false, 2, [.ref rw, .int (cn + 1)])) u (false, 1, [.int t, .double pr, .int fl, .int oc, .ref q, .int m, .int he, .double en, .double si, .int dd, .int od, .int tb])) wt = some (false, 2, [.ref rw, .int (cn + 1)]) := ((sh_up_ne n_wt_u).trans (sh_up_eq _ _ _))
  have f_rw_3 : (sh_up (sh_up (sh_up h rw (true, 4, (rl.set cn.toNatClampNeg (.ref u)))) wt (false, 2, [.ref rw, .int (cn + 1)])) u (false, 1, [.int t, .double pr, .int fl, .int oc, .ref q, .int m, .int he, .double en, .double si, .int dd, .int od, .int tb])) rw = some (true, 4, (rl.set cn.toNatClampNeg (.ref u))) := ((sh_up_ne n_rw_u).trans ((sh_up_ne n_rw_wt).trans (sh_up_eq _ _ _)))
  have f_u_3 : (sh_up (sh_up (sh_up h rw (true, 4, (rl.set cn.toNatClampNeg (.ref u)))) wt (false, 2, [.ref rw, .int (cn + 1)])) u (false, 1, [.int t, .double pr, .int fl, .int oc, .ref q, .int m, .int he, .double en, .double si, .int dd, .int od, .int tb])) u = some (false, 1, [.int t, .double pr, .int fl, .int oc, .ref q, .int m, .int he, .double en, .double si, .int dd, .int od, .int tb]) := (sh_up_eq _ _ _)
  refine sh_aload_n dc_Sync_enqueue_18 rfl rfl ?_
  refine sh_dload_n dc_Sync_enqueue_19 rfl rfl ?_
  refine sh_put (k := 8) dc_Sync_enqueue_20 f_u_3 rfl (by decide) fl_Sync_35 rfl pd_D rfl rfl ?_
  refine sh_Vh (sh_up_up _ _ _ _) ?_
  show sh_V _ _ (n, (sh_up (sh_up (sh_up h rw (true, 4, (rl.set cn.toNatClampNeg (.ref u)))) wt (false, 2, [.ref rw, .int (cn + 1)])) u (false, 1, [.int t, .double pr, .int fl, .int oc, .ref q, .int m, .int he, .double en, .double a, .int dd, .int od, .int tb]))) _ _ _
  have f_q_4 : (sh_up (sh_up (sh_up h rw (true, 4, (rl.set cn.toNatClampNeg (.ref u)))) wt (false, 2, [.ref rw, .int (cn + 1)])) u (false, 1, [.int t, .double pr, .int fl, .int oc, .ref q, .int m, .int he, .double en, .double a, .int dd, .int od, .int tb])) q = some (false, 4, [.int kd, .ref wt, .double ws, .int wc, va_rf ow, .int dp]) := ((sh_up_ne n_q_u).trans ((sh_up_ne n_q_wt).trans ((sh_up_ne n_q_rw).trans f_q)))
  have f_wt_4 : (sh_up (sh_up (sh_up h rw (true, 4, (rl.set cn.toNatClampNeg (.ref u)))) wt (false, 2, [.ref rw, .int (cn + 1)])) u (false, 1, [.int t, .double pr, .int fl, .int oc, .ref q, .int m, .int he, .double en, .double a, .int dd, .int od, .int tb])) wt = some (false, 2, [.ref rw, .int (cn + 1)]) := ((sh_up_ne n_wt_u).trans (sh_up_eq _ _ _))
  have f_rw_4 : (sh_up (sh_up (sh_up h rw (true, 4, (rl.set cn.toNatClampNeg (.ref u)))) wt (false, 2, [.ref rw, .int (cn + 1)])) u (false, 1, [.int t, .double pr, .int fl, .int oc, .ref q, .int m, .int he, .double en, .double a, .int dd, .int od, .int tb])) rw = some (true, 4, (rl.set cn.toNatClampNeg (.ref u))) := ((sh_up_ne n_rw_u).trans ((sh_up_ne n_rw_wt).trans (sh_up_eq _ _ _)))
  have f_u_4 : (sh_up (sh_up (sh_up h rw (true, 4, (rl.set cn.toNatClampNeg (.ref u)))) wt (false, 2, [.ref rw, .int (cn + 1)])) u (false, 1, [.int t, .double pr, .int fl, .int oc, .ref q, .int m, .int he, .double en, .double a, .int dd, .int od, .int tb])) u = some (false, 1, [.int t, .double pr, .int fl, .int oc, .ref q, .int m, .int he, .double en, .double a, .int dd, .int od, .int tb]) := (sh_up_eq _ _ _)
  refine sh_aload_n dc_Sync_enqueue_23 rfl rfl ?_
  refine sh_iconst (v := 0) dc_Sync_enqueue_24 (by decide) ?_
  refine sh_put (k := 3) dc_Sync_enqueue_25 f_u_4 rfl (by decide) fl_Sync_39 rfl pd_I rfl rfl ?_
  refine sh_Vh (sh_up_up _ _ _ _) ?_
  show sh_V _ _ (n, (sh_up (sh_up (sh_up h rw (true, 4, (rl.set cn.toNatClampNeg (.ref u)))) wt (false, 2, [.ref rw, .int (cn + 1)])) u (false, 1, [.int t, .double pr, .int fl, .int 0, .ref q, .int m, .int he, .double en, .double a, .int dd, .int od, .int tb]))) _ _ _
  have f_q_5 : (sh_up (sh_up (sh_up h rw (true, 4, (rl.set cn.toNatClampNeg (.ref u)))) wt (false, 2, [.ref rw, .int (cn + 1)])) u (false, 1, [.int t, .double pr, .int fl, .int 0, .ref q, .int m, .int he, .double en, .double a, .int dd, .int od, .int tb])) q = some (false, 4, [.int kd, .ref wt, .double ws, .int wc, va_rf ow, .int dp]) := ((sh_up_ne n_q_u).trans ((sh_up_ne n_q_wt).trans ((sh_up_ne n_q_rw).trans f_q)))
  have f_wt_5 : (sh_up (sh_up (sh_up h rw (true, 4, (rl.set cn.toNatClampNeg (.ref u)))) wt (false, 2, [.ref rw, .int (cn + 1)])) u (false, 1, [.int t, .double pr, .int fl, .int 0, .ref q, .int m, .int he, .double en, .double a, .int dd, .int od, .int tb])) wt = some (false, 2, [.ref rw, .int (cn + 1)]) := ((sh_up_ne n_wt_u).trans (sh_up_eq _ _ _))
  have f_rw_5 : (sh_up (sh_up (sh_up h rw (true, 4, (rl.set cn.toNatClampNeg (.ref u)))) wt (false, 2, [.ref rw, .int (cn + 1)])) u (false, 1, [.int t, .double pr, .int fl, .int 0, .ref q, .int m, .int he, .double en, .double a, .int dd, .int od, .int tb])) rw = some (true, 4, (rl.set cn.toNatClampNeg (.ref u))) := ((sh_up_ne n_rw_u).trans ((sh_up_ne n_rw_wt).trans (sh_up_eq _ _ _)))
  have f_u_5 : (sh_up (sh_up (sh_up h rw (true, 4, (rl.set cn.toNatClampNeg (.ref u)))) wt (false, 2, [.ref rw, .int (cn + 1)])) u (false, 1, [.int t, .double pr, .int fl, .int 0, .ref q, .int m, .int he, .double en, .double a, .int dd, .int od, .int tb])) u = some (false, 1, [.int t, .double pr, .int fl, .int 0, .ref q, .int m, .int he, .double en, .double a, .int dd, .int od, .int tb]) := (sh_up_eq _ _ _)
  exact sh_return dc_Sync_enqueue_28 rfl (by decide) (by decide)
theorem pt_Hall_gateOf_Lock_1 {n : Nat} {h : sh_Hp} {q : Nat} {kd : Int32} {wt : Nat} {ws : UInt64} {wc : Int32} {ow : Option Nat} {dp : Int32} (f_q : h q = some (false, 4, [.int kd, .ref wt, .double ws, .int wc, va_rf ow, .int dp])) : sh_M md_Hall_gateOf [.ref q] (n, h) (.inl (some (.ref q), (n, h))) := by
  refine sh_aload_n dc_Hall_gateOf_0 rfl rfl ?_
  refine sh_instY dc_Hall_gateOf_1 wd_473 f_q rfl (Or.inr wd_1089) ?_
  refine sh_if_eq (tgt := 14) dc_Hall_gateOf_4 (by decide) (fun z => absurd z (by decide)) (fun _ => ?_)
  refine sh_aload_n dc_Hall_gateOf_7 rfl rfl ?_
  refine sh_castY dc_Hall_gateOf_8 wd_473 f_q rfl (Or.inr wd_1089) ?_
  refine sh_astore_n dc_Hall_gateOf_11 rfl (by decide) ?_
  refine sh_aload_n dc_Hall_gateOf_12 rfl rfl ?_
  exact sh_areturn (v := (some q)) dc_Hall_gateOf_13 rfl (by decide) (by decide)
theorem pt_Sync_addWaited_Semaphore_1 {n : Nat} {h : sh_Hp} {q : Nat} {x : UInt64} {kd : Int32} {wt : Nat} {ws : UInt64} {wc : Int32} {pm : Int32} (f_q : h q = some (false, 5, [.int kd, .ref wt, .double ws, .int wc, .int pm])) (v0_6 : vf_n64 (FP.dadd ws x)) : sh_M md_Sync_addWaited [.ref q, .double x] (n, h) (.inl (none, (n, (sh_up h q (false, 5, [.int kd, .ref wt, .double (FP.dadd ws x), .int (wc + 1), .int pm]))))) := by
  refine sh_aload_n dc_Sync_addWaited_0 rfl rfl ?_
  refine sh_aload_n dc_Sync_addWaited_1 rfl rfl ?_
  refine sh_get (k := 2) dc_Sync_addWaited_2 f_q rfl (by decide) fl_Sync_49 rfl ?_
  refine sh_dload_n dc_Sync_addWaited_5 rfl rfl ?_
  refine sh_dadd dc_Sync_addWaited_6 v0_6 ?_
  refine sh_put (k := 2) dc_Sync_addWaited_7 f_q rfl (by decide) fl_Sync_49 rfl pd_D rfl rfl ?_
  show sh_V _ _ (n, (sh_up h q (false, 5, [.int kd, .ref wt, .double (FP.dadd ws x), .int wc, .int pm]))) _ _ _
  have f_q_1 : (sh_up h q (false, 5, [.int kd, .ref wt, .double (FP.dadd ws x), .int wc, .int pm])) q = some (false, 5, [.int kd, .ref wt, .double (FP.dadd ws x), .int wc, .int pm]) := (sh_up_eq _ _ _)
  refine sh_aload_n dc_Sync_addWaited_10 rfl rfl ?_
  refine sh_dup dc_Sync_addWaited_11 rfl ?_
  refine sh_get (k := 3) dc_Sync_addWaited_12 f_q_1 rfl (by decide) fl_Sync_52 rfl ?_
  refine sh_iconst (v := 1) dc_Sync_addWaited_15 (by decide) ?_
  refine sh_iadd dc_Sync_addWaited_16 ?_
  refine sh_put (k := 3) dc_Sync_addWaited_17 f_q_1 rfl (by decide) fl_Sync_52 rfl pd_I rfl rfl ?_
  refine sh_Vh (sh_up_up _ _ _ _) ?_
  show sh_V _ _ (n, (sh_up h q (false, 5, [.int kd, .ref wt, .double (FP.dadd ws x), .int (wc + 1), .int pm]))) _ _ _
  have f_q_2 : (sh_up h q (false, 5, [.int kd, .ref wt, .double (FP.dadd ws x), .int (wc + 1), .int pm])) q = some (false, 5, [.int kd, .ref wt, .double (FP.dadd ws x), .int (wc + 1), .int pm]) := (sh_up_eq _ _ _)
  exact sh_return dc_Sync_addWaited_20 rfl (by decide) (by decide)
theorem pt_Sync_holdOf_Semaphore_1 {n : Nat} {h : sh_Hp} {q : Nat} {u : Nat} {kd : Int32} {wt : Nat} {ws : UInt64} {wc : Int32} {pm : Int32} (f_q : h q = some (false, 5, [.int kd, .ref wt, .double ws, .int wc, .int pm])) : sh_M md_Sync_holdOf [.ref q, .ref u] (n, h) (.inl (some (.int 0), (n, h))) := by
  refine sh_iconst (v := 0) dc_Sync_holdOf_0 (by decide) ?_
  exact sh_ireturn dc_Sync_holdOf_1 rfl rfl (by decide) (by decide)
theorem pt_Sync_enqueue_Semaphore_1 {n : Nat} {h : sh_Hp} {q : Nat} {u : Nat} {m : Int32} {a : UInt64} {kd : Int32} {wt : Nat} {ws : UInt64} {wc : Int32} {pm : Int32} {rw : Nat} {cn : Int32} {rl : List Value} {t : Int32} {pr : UInt64} {fl : Int32} {oc : Int32} {pl : Option Nat} {mo : Int32} {he : Int32} {en : UInt64} {si : UInt64} {dd : Int32} {od : Int32} {tb : Int32} (f_q : h q = some (false, 5, [.int kd, .ref wt, .double ws, .int wc, .int pm])) (f_wt : h wt = some (false, 2, [.ref rw, .int cn])) (f_rw : h rw = some (true, 4, rl)) (f_u : h u = some (false, 1, [.int t, .double pr, .int fl, .int oc, va_rf pl, .int mo, .int he, .double en, .double si, .int dd, .int od, .int tb])) (n_q_u : q ≠ u) (n_rw_u : rw ≠ u) (n_wt_u : wt ≠ u) (c0_5 : (Int32.ofNat rl.length) ≤ cn) : sh_M md_Sync_enqueue [.ref q, .ref u, .int m, .double a] (n, h) (.inl (none, (n, (sh_up h u (false, 1, [.int t, .double pr, .int fl, .int 0, .ref q, .int m, .int he, .double en, .double a, .int dd, .int od, .int tb]))))) := by
  refine sh_aload_n dc_Sync_enqueue_0 rfl rfl ?_
  refine sh_get (k := 1) dc_Sync_enqueue_1 f_q rfl (by decide) fl_Sync_18 rfl ?_
  refine sh_aload_n dc_Sync_enqueue_4 rfl rfl ?_
  refine sh_callR (sh_virt (As := [.ref u]) dc_Sync_enqueue_5 lm_Waiters_add ln_Sync_22 wd_615 wd_16 rfl rfl (Nat.le_of_ble_eq_true rfl) f_wt rfl) (pt_Waiters_add_1 (pl := pl) f_wt f_rw f_u c0_5) ⟨(Nat.le_of_ble_eq_true rfl), (Nat.le_of_ble_eq_true rfl), (Nat.le_of_ble_eq_true rfl), (Nat.le_of_ble_eq_true rfl)⟩ ?_
  show sh_V _ (_, _, []) (n, h) _ _ _
  refine sh_aload_n dc_Sync_enqueue_8 rfl rfl ?_
  refine sh_aload_n dc_Sync_enqueue_9 rfl rfl ?_
  refine sh_put (k := 4) dc_Sync_enqueue_10 f_u rfl (by decide) fl_Sync_26 rfl pd_LSync rfl rfl ?_
  show sh_V _ _ (n, (sh_up h u (false, 1, [.int t, .double pr, .int fl, .int oc, .ref q, .int mo, .int he, .double en, .double si, .int dd, .int od, .int tb]))) _ _ _
  have f_q_1 : (sh_up h u (false, 1, [.int t, .double pr, .int fl, .int oc, .ref q, .int mo, .int he, .double en, .double si, .int dd, .int od, .int tb])) q = some (false, 5, [.int kd, .ref wt, .double ws, .int wc, .int pm]) := ((sh_up_ne n_q_u).trans f_q)
  have f_wt_1 : (sh_up h u (false, 1, [.int t, .double pr, .int fl, .int oc, .ref q, .int mo, .int he, .double en, .double si, .int dd, .int od, .int tb])) wt = some (false, 2, [.ref rw, .int cn]) := ((sh_up_ne n_wt_u).trans f_wt)
  have f_rw_1 : (sh_up h u (false, 1, [.int t, .double pr, .int fl, .int oc, .ref q, .int mo, .int he, .double en, .double si, .int dd, .int od, .int tb])) rw = some (true, 4, rl) := ((sh_up_ne n_rw_u).trans f_rw)
  have f_u_1 : (sh_up h u (false, 1, [.int t, .double pr, .int fl, .int oc, .ref q, .int mo, .int he, .double en, .double si, .int dd, .int od, .int tb])) u = some (false, 1, [.int t, .double pr, .int fl, .int oc, .ref q, .int mo, .int he, .double en, .double si, .int dd, .int od, .int tb]) := (sh_up_eq _ _ _)
  refine sh_aload_n dc_Sync_enqueue_13 rfl rfl ?_
  refine sh_iload_n dc_Sync_enqueue_14 rfl rfl ?_
  refine sh_put (k := 5) dc_Sync_enqueue_15 f_u_1 rfl (by decide) fl_Sync_32 rfl pd_I rfl rfl ?_
  refine sh_Vh (sh_up_up _ _ _ _) ?_
  show sh_V _ _ (n, (sh_up h u (false, 1, [.int t, .double pr, .int fl, .int oc, .ref q, .int m, .int he, .double en, .double si, .int dd, .int od, .int tb]))) _ _ _
  have f_q_2 : (sh_up h u (false, 1, [.int t, .double pr, .int fl, .int oc, .ref q, .int m, .int he, .double en, .double si, .int dd, .int od, .int tb])) q = some (false, 5, [.int kd, .ref wt, .double ws, .int wc, .int pm]) := ((sh_up_ne n_q_u).trans f_q)
  have f_wt_2 : (sh_up h u (false, 1, [.int t, .double pr, .int fl, .int oc, .ref q, .int m, .int he, .double en, .double si, .int dd, .int od, .int tb])) wt = some (false, 2, [.ref rw, .int cn]) := ((sh_up_ne n_wt_u).trans f_wt)
  have f_rw_2 : (sh_up h u (false, 1, [.int t, .double pr, .int fl, .int oc, .ref q, .int m, .int he, .double en, .double si, .int dd, .int od, .int tb])) rw = some (true, 4, rl) := ((sh_up_ne n_rw_u).trans f_rw)
  have f_u_2 : (sh_up h u (false, 1, [.int t, .double pr, .int fl, .int oc, .ref q, .int m, .int he, .double en, .double si, .int dd, .int od, .int tb])) u = some (false, 1, [.int t, .double pr, .int fl, .int oc, .ref q, .int m, .int he, .double en, .double si, .int dd, .int od, .int tb]) := (sh_up_eq _ _ _)
  refine sh_aload_n dc_Sync_enqueue_18 rfl rfl ?_
  refine sh_dload_n dc_Sync_enqueue_19 rfl rfl ?_
  refine sh_put (k := 8) dc_Sync_enqueue_20 f_u_2 rfl (by decide) fl_Sync_35 rfl pd_D rfl rfl ?_
  refine sh_Vh (sh_up_up _ _ _ _) ?_
  show sh_V _ _ (n, (sh_up h u (false, 1, [.int t, .double pr, .int fl, .int oc, .ref q, .int m, .int he, .double en, .double a, .int dd, .int od, .int tb]))) _ _ _
  have f_q_3 : (sh_up h u (false, 1, [.int t, .double pr, .int fl, .int oc, .ref q, .int m, .int he, .double en, .double a, .int dd, .int od, .int tb])) q = some (false, 5, [.int kd, .ref wt, .double ws, .int wc, .int pm]) := ((sh_up_ne n_q_u).trans f_q)
  have f_wt_3 : (sh_up h u (false, 1, [.int t, .double pr, .int fl, .int oc, .ref q, .int m, .int he, .double en, .double a, .int dd, .int od, .int tb])) wt = some (false, 2, [.ref rw, .int cn]) := ((sh_up_ne n_wt_u).trans f_wt)
  have f_rw_3 : (sh_up h u (false, 1, [.int t, .double pr, .int fl, .int oc, .ref q, .int m, .int he, .double en, .double a, .int dd, .int od, .int tb])) rw = some (true, 4, rl) := ((sh_up_ne n_rw_u).trans f_rw)
  have f_u_3 : (sh_up h u (false, 1, [.int t, .double pr, .int fl, .int oc, .ref q, .int m, .int he, .double en, .double a, .int dd, .int od, .int tb])) u = some (false, 1, [.int t, .double pr, .int fl, .int oc, .ref q, .int m, .int he, .double en, .double a, .int dd, .int od, .int tb]) := (sh_up_eq _ _ _)
  refine sh_aload_n dc_Sync_enqueue_23 rfl rfl ?_
  refine sh_iconst (v := 0) dc_Sync_enqueue_24 (by decide) ?_
  refine sh_put (k := 3) dc_Sync_enqueue_25 f_u_3 rfl (by decide) fl_Sync_39 rfl pd_I rfl rfl ?_
  refine sh_Vh (sh_up_up _ _ _ _) ?_
  show sh_V _ _ (n, (sh_up h u (false, 1, [.int t, .double pr, .int fl, .int 0, .ref q, .int m, .int he, .double en, .double a, .int dd, .int od, .int tb]))) _ _ _
  have f_q_4 : (sh_up h u (false, 1, [.int t, .double pr, .int fl, .int 0, .ref q, .int m, .int he, .double en, .double a, .int dd, .int od, .int tb])) q = some (false, 5, [.int kd, .ref wt, .double ws, .int wc, .int pm]) := ((sh_up_ne n_q_u).trans f_q)
  have f_wt_4 : (sh_up h u (false, 1, [.int t, .double pr, .int fl, .int 0, .ref q, .int m, .int he, .double en, .double a, .int dd, .int od, .int tb])) wt = some (false, 2, [.ref rw, .int cn]) := ((sh_up_ne n_wt_u).trans f_wt)
  have f_rw_4 : (sh_up h u (false, 1, [.int t, .double pr, .int fl, .int 0, .ref q, .int m, .int he, .double en, .double a, .int dd, .int od, .int tb])) rw = some (true, 4, rl) := ((sh_up_ne n_rw_u).trans f_rw)
  have f_u_4 : (sh_up h u (false, 1, [.int t, .double pr, .int fl, .int 0, .ref q, .int m, .int he, .double en, .double a, .int dd, .int od, .int tb])) u = some (false, 1, [.int t, .double pr, .int fl, .int 0, .ref q, .int m, .int he, .double en, .double a, .int dd, .int od, .int tb]) := (sh_up_eq _ _ _)
  exact sh_return dc_Sync_enqueue_28 rfl (by decide) (by decide)
theorem pt_Sync_enqueue_Semaphore_2 {n : Nat} {h : sh_Hp} {q : Nat} {u : Nat} {m : Int32} {a : UInt64} {kd : Int32} {wt : Nat} {ws : UInt64} {wc : Int32} {pm : Int32} {rw : Nat} {cn : Int32} {rl : List Value} {t : Int32} {pr : UInt64} {fl : Int32} {oc : Int32} {pl : Option Nat} {mo : Int32} {he : Int32} {en : UInt64} {si : UInt64} {dd : Int32} {od : Int32} {tb : Int32} {w21_5 : Value} (f_q : h q = some (false, 5, [.int kd, .ref wt, .double ws, .int wc, .int pm])) (f_wt : h wt = some (false, 2, [.ref rw, .int cn])) (f_rw : h rw = some (true, 4, rl)) (f_u : h u = some (false, 1, [.int t, .double pr, .int fl, .int oc, va_rf pl, .int mo, .int he, .double en, .double si, .int dd, .int od, .int tb])) (n_q_rw : q ≠ rw) (n_q_u : q ≠ u) (n_q_wt : q ≠ wt) (n_rw_u : rw ≠ u) (n_rw_wt : rw ≠ wt) (n_u_rw : u ≠ rw) (n_u_wt : u ≠ wt) (n_wt_rw : wt ≠ rw) (n_wt_u : wt ≠ u) (c0_5 : ¬ (Int32.ofNat rl.length) ≤ cn) (v1_5 : ¬ cn < 0) (v2_5 : rl[cn.toNatClampNeg]? = some w21_5) : sh_M md_Sync_enqueue [.ref q, .ref u, .int m, .double a] (n, h) (.inl (none, (n, (sh_up (sh_up (sh_up h rw (true, 4, (rl.set cn.toNatClampNeg (.ref u)))) wt (false, 2, [.ref rw, .int (cn + 1)])) u (false, 1, [.int t, .double pr, .int fl, .int 0, .ref q, .int m, .int he, .double en, .double a, .int dd, .int od, .int tb]))))) := by
  refine sh_aload_n dc_Sync_enqueue_0 rfl rfl ?_
  refine sh_get (k := 1) dc_Sync_enqueue_1 f_q rfl (by decide) fl_Sync_18 rfl ?_
  refine sh_aload_n dc_Sync_enqueue_4 rfl rfl ?_
  refine sh_callR (sh_virt (As := [.ref u]) dc_Sync_enqueue_5 lm_Waiters_add ln_Sync_22 wd_615 wd_16 rfl rfl (Nat.le_of_ble_eq_true rfl) f_wt rfl) (pt_Waiters_add_2 (pl := pl) f_wt f_rw f_u n_wt_rw n_rw_wt n_u_wt n_u_rw c0_5 v1_5 v2_5) ⟨(Nat.le_of_ble_eq_true rfl), (Nat.le_of_ble_eq_true rfl), (Nat.le_of_ble_eq_true rfl), (Nat.le_of_ble_eq_true rfl)⟩ ?_
  show sh_V _ (_, _, []) (n, (sh_up (sh_up h rw (true, 4, (rl.set cn.toNatClampNeg (.ref u)))) wt (false, 2, [.ref rw, .int (cn + 1)]))) _ _ _
  have f_q_1 : (sh_up (sh_up h rw (true, 4, (rl.set cn.toNatClampNeg (.ref u)))) wt (false, 2, [.ref rw, .int (cn + 1)])) q = some (false, 5, [.int kd, .ref wt, .double ws, .int wc, .int pm]) := ((sh_up_ne n_q_wt).trans ((sh_up_ne n_q_rw).trans f_q))
  have f_wt_1 : (sh_up (sh_up h rw (true, 4, (rl.set cn.toNatClampNeg (.ref u)))) wt (false, 2, [.ref rw, .int (cn + 1)])) wt = some (false, 2, [.ref rw, .int (cn + 1)]) := (sh_up_eq _ _ _)
  have f_rw_1 : (sh_up (sh_up h rw (true, 4, (rl.set cn.toNatClampNeg (.ref u)))) wt (false, 2, [.ref rw, .int (cn + 1)])) rw = some (true, 4, (rl.set cn.toNatClampNeg (.ref u))) := ((sh_up_ne n_rw_wt).trans (sh_up_eq _ _ _))
  have f_u_1 : (sh_up (sh_up h rw (true, 4, (rl.set cn.toNatClampNeg (.ref u)))) wt (false, 2, [.ref rw, .int (cn + 1)])) u = some (false, 1, [.int t, .double pr, .int fl, .int oc, va_rf pl, .int mo, .int he, .double en, .double si, .int dd, .int od, .int tb]) := ((sh_up_ne n_u_wt).trans ((sh_up_ne n_u_rw).trans f_u))
  refine sh_aload_n dc_Sync_enqueue_8 rfl rfl ?_
  refine sh_aload_n dc_Sync_enqueue_9 rfl rfl ?_
  refine sh_put (k := 4) dc_Sync_enqueue_10 f_u_1 rfl (by decide) fl_Sync_26 rfl pd_LSync rfl rfl ?_
  show sh_V _ _ (n, (sh_up (sh_up (sh_up h rw (true, 4, (rl.set cn.toNatClampNeg (.ref u)))) wt (false, 2, [.ref rw, .int (cn + 1)])) u (false, 1, [.int t, .double pr, .int fl, .int oc, .ref q, .int mo, .int he, .double en, .double si, .int dd, .int od, .int tb]))) _ _ _
  have f_q_2 : (sh_up (sh_up (sh_up h rw (true, 4, (rl.set cn.toNatClampNeg (.ref u)))) wt (false, 2, [.ref rw, .int (cn + 1)])) u (false, 1, [.int t, .double pr, .int fl, .int oc, .ref q, .int mo, .int he, .double en, .double si, .int dd, .int od, .int tb])) q = some (false, 5, [.int kd, .ref wt, .double ws, .int wc, .int pm]) := ((sh_up_ne n_q_u).trans ((sh_up_ne n_q_wt).trans ((sh_up_ne n_q_rw).trans f_q)))
  have f_wt_2 : (sh_up (sh_up (sh_up h rw (true, 4, (rl.set cn.toNatClampNeg (.ref u)))) wt (false, 2, [.ref rw, .int (cn + 1)])) u (false, 1, [.int t, .double pr, .int fl, .int oc, .ref q, .int mo, .int he, .double en, .double si, .int dd, .int od, .int tb])) wt = some (false, 2, [.ref rw, .int (cn + 1)]) := ((sh_up_ne n_wt_u).trans (sh_up_eq _ _ _))
  have f_rw_2 : (sh_up (sh_up (sh_up h rw (true, 4, (rl.set cn.toNatClampNeg (.ref u)))) wt (false, 2, [.ref rw, .int (cn + 1)])) u (false, 1, [.int t, .double pr, .int fl, .int oc, .ref q, .int mo, .int he, .double en, .double si, .int dd, .int od, .int tb])) rw = some (true, 4, (rl.set cn.toNatClampNeg (.ref u))) := ((sh_up_ne n_rw_u).trans ((sh_up_ne n_rw_wt).trans (sh_up_eq _ _ _)))
  have f_u_2 : (sh_up (sh_up (sh_up h rw (true, 4, (rl.set cn.toNatClampNeg (.ref u)))) wt (false, 2, [.ref rw, .int (cn + 1)])) u (false, 1, [.int t, .double pr, .int fl, .int oc, .ref q, .int mo, .int he, .double en, .double si, .int dd, .int od, .int tb])) u = some (false, 1, [.int t, .double pr, .int fl, .int oc, .ref q, .int mo, .int he, .double en, .double si, .int dd, .int od, .int tb]) := (sh_up_eq _ _ _)
  refine sh_aload_n dc_Sync_enqueue_13 rfl rfl ?_
  refine sh_iload_n dc_Sync_enqueue_14 rfl rfl ?_
  refine sh_put (k := 5) dc_Sync_enqueue_15 f_u_2 rfl (by decide) fl_Sync_32 rfl pd_I rfl rfl ?_
  refine sh_Vh (sh_up_up _ _ _ _) ?_
  show sh_V _ _ (n, (sh_up (sh_up (sh_up h rw (true, 4, (rl.set cn.toNatClampNeg (.ref u)))) wt (false, 2, [.ref rw, .int (cn + 1)])) u (false, 1, [.int t, .double pr, .int fl, .int oc, .ref q, .int m, .int he, .double en, .double si, .int dd, .int od, .int tb]))) _ _ _
  have f_q_3 : (sh_up (sh_up (sh_up h rw (true, 4, (rl.set cn.toNatClampNeg (.ref u)))) wt (false, 2, [.ref rw, .int (cn + 1)])) u (false, 1, [.int t, .double pr, .int fl, .int oc, .ref q, .int m, .int he, .double en, .double si, .int dd, .int od, .int tb])) q = some (false, 5, [.int kd, .ref wt, .double ws, .int wc, .int pm]) := ((sh_up_ne n_q_u).trans ((sh_up_ne n_q_wt).trans ((sh_up_ne n_q_rw).trans f_q)))
  have f_wt_3 : (sh_up (sh_up (sh_up h rw (true, 4, (rl.set cn.toNatClampNeg (.ref u)))) wt (false, 2, [.ref rw, .int (cn + 1)])) u (false, 1, [.int t, .double pr, .int fl, .int oc, .ref q, .int m, .int he, .double en, .double si, .int dd, .int od, .int tb])) wt = some (false, 2, [.ref rw, .int (cn + 1)]) := ((sh_up_ne n_wt_u).trans (sh_up_eq _ _ _))
  have f_rw_3 : (sh_up (sh_up (sh_up h rw (true, 4, (rl.set cn.toNatClampNeg (.ref u)))) wt (false, 2, [.ref rw, .int (cn + 1)])) u (false, 1, [.int t, .double pr, .int fl, .int oc, .ref q, .int m, .int he, .double en, .double si, .int dd, .int od, .int tb])) rw = some (true, 4, (rl.set cn.toNatClampNeg (.ref u))) := ((sh_up_ne n_rw_u).trans ((sh_up_ne n_rw_wt).trans (sh_up_eq _ _ _)))
  have f_u_3 : (sh_up (sh_up (sh_up h rw (true, 4, (rl.set cn.toNatClampNeg (.ref u)))) wt (false, 2, [.ref rw, .int (cn + 1)])) u (false, 1, [.int t, .double pr, .int fl, .int oc, .ref q, .int m, .int he, .double en, .double si, .int dd, .int od, .int tb])) u = some (false, 1, [.int t, .double pr, .int fl, .int oc, .ref q, .int m, .int he, .double en, .double si, .int dd, .int od, .int tb]) := (sh_up_eq _ _ _)
  refine sh_aload_n dc_Sync_enqueue_18 rfl rfl ?_
  refine sh_dload_n dc_Sync_enqueue_19 rfl rfl ?_
  refine sh_put (k := 8) dc_Sync_enqueue_20 f_u_3 rfl (by decide) fl_Sync_35 rfl pd_D rfl rfl ?_
  refine sh_Vh (sh_up_up _ _ _ _) ?_
  show sh_V _ _ (n, (sh_up (sh_up (sh_up h rw (true, 4, (rl.set cn.toNatClampNeg (.ref u)))) wt (false, 2, [.ref rw, .int (cn + 1)])) u (false, 1, [.int t, .double pr, .int fl, .int oc, .ref q, .int m, .int he, .double en, .double a, .int dd, .int od, .int tb]))) _ _ _
  have f_q_4 : (sh_up (sh_up (sh_up h rw (true, 4, (rl.set cn.toNatClampNeg (.ref u)))) wt (false, 2, [.ref rw, .int (cn + 1)])) u (false, 1, [.int t, .double pr, .int fl, .int oc, .ref q, .int m, .int he, .double en, .double a, .int dd, .int od, .int tb])) q = some (false, 5, [.int kd, .ref wt, .double ws, .int wc, .int pm]) := ((sh_up_ne n_q_u).trans ((sh_up_ne n_q_wt).trans ((sh_up_ne n_q_rw).trans f_q)))
  have f_wt_4 : (sh_up (sh_up (sh_up h rw (true, 4, (rl.set cn.toNatClampNeg (.ref u)))) wt (false, 2, [.ref rw, .int (cn + 1)])) u (false, 1, [.int t, .double pr, .int fl, .int oc, .ref q, .int m, .int he, .double en, .double a, .int dd, .int od, .int tb])) wt = some (false, 2, [.ref rw, .int (cn + 1)]) := ((sh_up_ne n_wt_u).trans (sh_up_eq _ _ _))
  have f_rw_4 : (sh_up (sh_up (sh_up h rw (true, 4, (rl.set cn.toNatClampNeg (.ref u)))) wt (false, 2, [.ref rw, .int (cn + 1)])) u (false, 1, [.int t, .double pr, .int fl, .int oc, .ref q, .int m, .int he, .double en, .double a, .int dd, .int od, .int tb])) rw = some (true, 4, (rl.set cn.toNatClampNeg (.ref u))) := ((sh_up_ne n_rw_u).trans ((sh_up_ne n_rw_wt).trans (sh_up_eq _ _ _)))
  have f_u_4 : (sh_up (sh_up (sh_up h rw (true, 4, (rl.set cn.toNatClampNeg (.ref u)))) wt (false, 2, [.ref rw, .int (cn + 1)])) u (false, 1, [.int t, .double pr, .int fl, .int oc, .ref q, .int m, .int he, .double en, .double a, .int dd, .int od, .int tb])) u = some (false, 1, [.int t, .double pr, .int fl, .int oc, .ref q, .int m, .int he, .double en, .double a, .int dd, .int od, .int tb]) := (sh_up_eq _ _ _)
  refine sh_aload_n dc_Sync_enqueue_23 rfl rfl ?_
  refine sh_iconst (v := 0) dc_Sync_enqueue_24 (by decide) ?_
  refine sh_put (k := 3) dc_Sync_enqueue_25 f_u_4 rfl (by decide) fl_Sync_39 rfl pd_I rfl rfl ?_
  refine sh_Vh (sh_up_up _ _ _ _) ?_
  show sh_V _ _ (n, (sh_up (sh_up (sh_up h rw (true, 4, (rl.set cn.toNatClampNeg (.ref u)))) wt (false, 2, [.ref rw, .int (cn + 1)])) u (false, 1, [.int t, .double pr, .int fl, .int 0, .ref q, .int m, .int he, .double en, .double a, .int dd, .int od, .int tb]))) _ _ _
  have f_q_5 : (sh_up (sh_up (sh_up h rw (true, 4, (rl.set cn.toNatClampNeg (.ref u)))) wt (false, 2, [.ref rw, .int (cn + 1)])) u (false, 1, [.int t, .double pr, .int fl, .int 0, .ref q, .int m, .int he, .double en, .double a, .int dd, .int od, .int tb])) q = some (false, 5, [.int kd, .ref wt, .double ws, .int wc, .int pm]) := ((sh_up_ne n_q_u).trans ((sh_up_ne n_q_wt).trans ((sh_up_ne n_q_rw).trans f_q)))
  have f_wt_5 : (sh_up (sh_up (sh_up h rw (true, 4, (rl.set cn.toNatClampNeg (.ref u)))) wt (false, 2, [.ref rw, .int (cn + 1)])) u (false, 1, [.int t, .double pr, .int fl, .int 0, .ref q, .int m, .int he, .double en, .double a, .int dd, .int od, .int tb])) wt = some (false, 2, [.ref rw, .int (cn + 1)]) := ((sh_up_ne n_wt_u).trans (sh_up_eq _ _ _))
  have f_rw_5 : (sh_up (sh_up (sh_up h rw (true, 4, (rl.set cn.toNatClampNeg (.ref u)))) wt (false, 2, [.ref rw, .int (cn + 1)])) u (false, 1, [.int t, .double pr, .int fl, .int 0, .ref q, .int m, .int he, .double en, .double a, .int dd, .int od, .int tb])) rw = some (true, 4, (rl.set cn.toNatClampNeg (.ref u))) := ((sh_up_ne n_rw_u).trans ((sh_up_ne n_rw_wt).trans (sh_up_eq _ _ _)))
  have f_u_5 : (sh_up (sh_up (sh_up h rw (true, 4, (rl.set cn.toNatClampNeg (.ref u)))) wt (false, 2, [.ref rw, .int (cn + 1)])) u (false, 1, [.int t, .double pr, .int fl, .int 0, .ref q, .int m, .int he, .double en, .double a, .int dd, .int od, .int tb])) u = some (false, 1, [.int t, .double pr, .int fl, .int 0, .ref q, .int m, .int he, .double en, .double a, .int dd, .int od, .int tb]) := (sh_up_eq _ _ _)
  exact sh_return dc_Sync_enqueue_28 rfl (by decide) (by decide)
theorem pt_Hall_gateOf_Semaphore_1 {n : Nat} {h : sh_Hp} {q : Nat} {kd : Int32} {wt : Nat} {ws : UInt64} {wc : Int32} {pm : Int32} (f_q : h q = some (false, 5, [.int kd, .ref wt, .double ws, .int wc, .int pm])) : sh_M md_Hall_gateOf [.ref q] (n, h) (.inl (some (.ref q), (n, h))) := by
  refine sh_aload_n dc_Hall_gateOf_0 rfl rfl ?_
  refine sh_instY dc_Hall_gateOf_1 wd_473 f_q rfl (Or.inr wd_1090) ?_
  refine sh_if_eq (tgt := 14) dc_Hall_gateOf_4 (by decide) (fun z => absurd z (by decide)) (fun _ => ?_)
  refine sh_aload_n dc_Hall_gateOf_7 rfl rfl ?_
  refine sh_castY dc_Hall_gateOf_8 wd_473 f_q rfl (Or.inr wd_1090) ?_
  refine sh_astore_n dc_Hall_gateOf_11 rfl (by decide) ?_
  refine sh_aload_n dc_Hall_gateOf_12 rfl rfl ?_
  exact sh_areturn (v := (some q)) dc_Hall_gateOf_13 rfl (by decide) (by decide)
theorem pt_Sync_addWaited_Latch_1 {n : Nat} {h : sh_Hp} {q : Nat} {x : UInt64} {kd : Int32} {wt : Nat} {ws : UInt64} {wc : Int32} {ct : Int32} (f_q : h q = some (false, 6, [.int kd, .ref wt, .double ws, .int wc, .int ct])) (v0_6 : vf_n64 (FP.dadd ws x)) : sh_M md_Sync_addWaited [.ref q, .double x] (n, h) (.inl (none, (n, (sh_up h q (false, 6, [.int kd, .ref wt, .double (FP.dadd ws x), .int (wc + 1), .int ct]))))) := by
  refine sh_aload_n dc_Sync_addWaited_0 rfl rfl ?_
  refine sh_aload_n dc_Sync_addWaited_1 rfl rfl ?_
  refine sh_get (k := 2) dc_Sync_addWaited_2 f_q rfl (by decide) fl_Sync_49 rfl ?_
  refine sh_dload_n dc_Sync_addWaited_5 rfl rfl ?_
  refine sh_dadd dc_Sync_addWaited_6 v0_6 ?_
  refine sh_put (k := 2) dc_Sync_addWaited_7 f_q rfl (by decide) fl_Sync_49 rfl pd_D rfl rfl ?_
  show sh_V _ _ (n, (sh_up h q (false, 6, [.int kd, .ref wt, .double (FP.dadd ws x), .int wc, .int ct]))) _ _ _
  have f_q_1 : (sh_up h q (false, 6, [.int kd, .ref wt, .double (FP.dadd ws x), .int wc, .int ct])) q = some (false, 6, [.int kd, .ref wt, .double (FP.dadd ws x), .int wc, .int ct]) := (sh_up_eq _ _ _)
  refine sh_aload_n dc_Sync_addWaited_10 rfl rfl ?_
  refine sh_dup dc_Sync_addWaited_11 rfl ?_
  refine sh_get (k := 3) dc_Sync_addWaited_12 f_q_1 rfl (by decide) fl_Sync_52 rfl ?_
  refine sh_iconst (v := 1) dc_Sync_addWaited_15 (by decide) ?_
  refine sh_iadd dc_Sync_addWaited_16 ?_
  refine sh_put (k := 3) dc_Sync_addWaited_17 f_q_1 rfl (by decide) fl_Sync_52 rfl pd_I rfl rfl ?_
  refine sh_Vh (sh_up_up _ _ _ _) ?_
  show sh_V _ _ (n, (sh_up h q (false, 6, [.int kd, .ref wt, .double (FP.dadd ws x), .int (wc + 1), .int ct]))) _ _ _
  have f_q_2 : (sh_up h q (false, 6, [.int kd, .ref wt, .double (FP.dadd ws x), .int (wc + 1), .int ct])) q = some (false, 6, [.int kd, .ref wt, .double (FP.dadd ws x), .int (wc + 1), .int ct]) := (sh_up_eq _ _ _)
  exact sh_return dc_Sync_addWaited_20 rfl (by decide) (by decide)
theorem pt_Sync_holdOf_Latch_1 {n : Nat} {h : sh_Hp} {q : Nat} {u : Nat} {kd : Int32} {wt : Nat} {ws : UInt64} {wc : Int32} {ct : Int32} (f_q : h q = some (false, 6, [.int kd, .ref wt, .double ws, .int wc, .int ct])) : sh_M md_Sync_holdOf [.ref q, .ref u] (n, h) (.inl (some (.int 0), (n, h))) := by
  refine sh_iconst (v := 0) dc_Sync_holdOf_0 (by decide) ?_
  exact sh_ireturn dc_Sync_holdOf_1 rfl rfl (by decide) (by decide)
theorem pt_Sync_enqueue_Latch_1 {n : Nat} {h : sh_Hp} {q : Nat} {u : Nat} {m : Int32} {a : UInt64} {kd : Int32} {wt : Nat} {ws : UInt64} {wc : Int32} {ct : Int32} {rw : Nat} {cn : Int32} {rl : List Value} {t : Int32} {pr : UInt64} {fl : Int32} {oc : Int32} {pl : Option Nat} {mo : Int32} {he : Int32} {en : UInt64} {si : UInt64} {dd : Int32} {od : Int32} {tb : Int32} (f_q : h q = some (false, 6, [.int kd, .ref wt, .double ws, .int wc, .int ct])) (f_wt : h wt = some (false, 2, [.ref rw, .int cn])) (f_rw : h rw = some (true, 4, rl)) (f_u : h u = some (false, 1, [.int t, .double pr, .int fl, .int oc, va_rf pl, .int mo, .int he, .double en, .double si, .int dd, .int od, .int tb])) (n_q_u : q ≠ u) (n_rw_u : rw ≠ u) (n_wt_u : wt ≠ u) (c0_5 : (Int32.ofNat rl.length) ≤ cn) : sh_M md_Sync_enqueue [.ref q, .ref u, .int m, .double a] (n, h) (.inl (none, (n, (sh_up h u (false, 1, [.int t, .double pr, .int fl, .int 0, .ref q, .int m, .int he, .double en, .double a, .int dd, .int od, .int tb]))))) := by
  refine sh_aload_n dc_Sync_enqueue_0 rfl rfl ?_
  refine sh_get (k := 1) dc_Sync_enqueue_1 f_q rfl (by decide) fl_Sync_18 rfl ?_
  refine sh_aload_n dc_Sync_enqueue_4 rfl rfl ?_
  refine sh_callR (sh_virt (As := [.ref u]) dc_Sync_enqueue_5 lm_Waiters_add ln_Sync_22 wd_615 wd_16 rfl rfl (Nat.le_of_ble_eq_true rfl) f_wt rfl) (pt_Waiters_add_1 (pl := pl) f_wt f_rw f_u c0_5) ⟨(Nat.le_of_ble_eq_true rfl), (Nat.le_of_ble_eq_true rfl), (Nat.le_of_ble_eq_true rfl), (Nat.le_of_ble_eq_true rfl)⟩ ?_
  show sh_V _ (_, _, []) (n, h) _ _ _
  refine sh_aload_n dc_Sync_enqueue_8 rfl rfl ?_
  refine sh_aload_n dc_Sync_enqueue_9 rfl rfl ?_
  refine sh_put (k := 4) dc_Sync_enqueue_10 f_u rfl (by decide) fl_Sync_26 rfl pd_LSync rfl rfl ?_
  show sh_V _ _ (n, (sh_up h u (false, 1, [.int t, .double pr, .int fl, .int oc, .ref q, .int mo, .int he, .double en, .double si, .int dd, .int od, .int tb]))) _ _ _
  have f_q_1 : (sh_up h u (false, 1, [.int t, .double pr, .int fl, .int oc, .ref q, .int mo, .int he, .double en, .double si, .int dd, .int od, .int tb])) q = some (false, 6, [.int kd, .ref wt, .double ws, .int wc, .int ct]) := ((sh_up_ne n_q_u).trans f_q)
  have f_wt_1 : (sh_up h u (false, 1, [.int t, .double pr, .int fl, .int oc, .ref q, .int mo, .int he, .double en, .double si, .int dd, .int od, .int tb])) wt = some (false, 2, [.ref rw, .int cn]) := ((sh_up_ne n_wt_u).trans f_wt)
  have f_rw_1 : (sh_up h u (false, 1, [.int t, .double pr, .int fl, .int oc, .ref q, .int mo, .int he, .double en, .double si, .int dd, .int od, .int tb])) rw = some (true, 4, rl) := ((sh_up_ne n_rw_u).trans f_rw)
  have f_u_1 : (sh_up h u (false, 1, [.int t, .double pr, .int fl, .int oc, .ref q, .int mo, .int he, .double en, .double si, .int dd, .int od, .int tb])) u = some (false, 1, [.int t, .double pr, .int fl, .int oc, .ref q, .int mo, .int he, .double en, .double si, .int dd, .int od, .int tb]) := (sh_up_eq _ _ _)
  refine sh_aload_n dc_Sync_enqueue_13 rfl rfl ?_
  refine sh_iload_n dc_Sync_enqueue_14 rfl rfl ?_
  refine sh_put (k := 5) dc_Sync_enqueue_15 f_u_1 rfl (by decide) fl_Sync_32 rfl pd_I rfl rfl ?_
  refine sh_Vh (sh_up_up _ _ _ _) ?_
  show sh_V _ _ (n, (sh_up h u (false, 1, [.int t, .double pr, .int fl, .int oc, .ref q, .int m, .int he, .double en, .double si, .int dd, .int od, .int tb]))) _ _ _
  have f_q_2 : (sh_up h u (false, 1, [.int t, .double pr, .int fl, .int oc, .ref q, .int m, .int he, .double en, .double si, .int dd, .int od, .int tb])) q = some (false, 6, [.int kd, .ref wt, .double ws, .int wc, .int ct]) := ((sh_up_ne n_q_u).trans f_q)
  have f_wt_2 : (sh_up h u (false, 1, [.int t, .double pr, .int fl, .int oc, .ref q, .int m, .int he, .double en, .double si, .int dd, .int od, .int tb])) wt = some (false, 2, [.ref rw, .int cn]) := ((sh_up_ne n_wt_u).trans f_wt)
  have f_rw_2 : (sh_up h u (false, 1, [.int t, .double pr, .int fl, .int oc, .ref q, .int m, .int he, .double en, .double si, .int dd, .int od, .int tb])) rw = some (true, 4, rl) := ((sh_up_ne n_rw_u).trans f_rw)
  have f_u_2 : (sh_up h u (false, 1, [.int t, .double pr, .int fl, .int oc, .ref q, .int m, .int he, .double en, .double si, .int dd, .int od, .int tb])) u = some (false, 1, [.int t, .double pr, .int fl, .int oc, .ref q, .int m, .int he, .double en, .double si, .int dd, .int od, .int tb]) := (sh_up_eq _ _ _)
  refine sh_aload_n dc_Sync_enqueue_18 rfl rfl ?_
  refine sh_dload_n dc_Sync_enqueue_19 rfl rfl ?_
  refine sh_put (k := 8) dc_Sync_enqueue_20 f_u_2 rfl (by decide) fl_Sync_35 rfl pd_D rfl rfl ?_
  refine sh_Vh (sh_up_up _ _ _ _) ?_
  show sh_V _ _ (n, (sh_up h u (false, 1, [.int t, .double pr, .int fl, .int oc, .ref q, .int m, .int he, .double en, .double a, .int dd, .int od, .int tb]))) _ _ _
  have f_q_3 : (sh_up h u (false, 1, [.int t, .double pr, .int fl, .int oc, .ref q, .int m, .int he, .double en, .double a, .int dd, .int od, .int tb])) q = some (false, 6, [.int kd, .ref wt, .double ws, .int wc, .int ct]) := ((sh_up_ne n_q_u).trans f_q)
  have f_wt_3 : (sh_up h u (false, 1, [.int t, .double pr, .int fl, .int oc, .ref q, .int m, .int he, .double en, .double a, .int dd, .int od, .int tb])) wt = some (false, 2, [.ref rw, .int cn]) := ((sh_up_ne n_wt_u).trans f_wt)
  have f_rw_3 : (sh_up h u (false, 1, [.int t, .double pr, .int fl, .int oc, .ref q, .int m, .int he, .double en, .double a, .int dd, .int od, .int tb])) rw = some (true, 4, rl) := ((sh_up_ne n_rw_u).trans f_rw)
  have f_u_3 : (sh_up h u (false, 1, [.int t, .double pr, .int fl, .int oc, .ref q, .int m, .int he, .double en, .double a, .int dd, .int od, .int tb])) u = some (false, 1, [.int t, .double pr, .int fl, .int oc, .ref q, .int m, .int he, .double en, .double a, .int dd, .int od, .int tb]) := (sh_up_eq _ _ _)
  refine sh_aload_n dc_Sync_enqueue_23 rfl rfl ?_
  refine sh_iconst (v := 0) dc_Sync_enqueue_24 (by decide) ?_
  refine sh_put (k := 3) dc_Sync_enqueue_25 f_u_3 rfl (by decide) fl_Sync_39 rfl pd_I rfl rfl ?_
  refine sh_Vh (sh_up_up _ _ _ _) ?_
  show sh_V _ _ (n, (sh_up h u (false, 1, [.int t, .double pr, .int fl, .int 0, .ref q, .int m, .int he, .double en, .double a, .int dd, .int od, .int tb]))) _ _ _
  have f_q_4 : (sh_up h u (false, 1, [.int t, .double pr, .int fl, .int 0, .ref q, .int m, .int he, .double en, .double a, .int dd, .int od, .int tb])) q = some (false, 6, [.int kd, .ref wt, .double ws, .int wc, .int ct]) := ((sh_up_ne n_q_u).trans f_q)
  have f_wt_4 : (sh_up h u (false, 1, [.int t, .double pr, .int fl, .int 0, .ref q, .int m, .int he, .double en, .double a, .int dd, .int od, .int tb])) wt = some (false, 2, [.ref rw, .int cn]) := ((sh_up_ne n_wt_u).trans f_wt)
  have f_rw_4 : (sh_up h u (false, 1, [.int t, .double pr, .int fl, .int 0, .ref q, .int m, .int he, .double en, .double a, .int dd, .int od, .int tb])) rw = some (true, 4, rl) := ((sh_up_ne n_rw_u).trans f_rw)
  have f_u_4 : (sh_up h u (false, 1, [.int t, .double pr, .int fl, .int 0, .ref q, .int m, .int he, .double en, .double a, .int dd, .int od, .int tb])) u = some (false, 1, [.int t, .double pr, .int fl, .int 0, .ref q, .int m, .int he, .double en, .double a, .int dd, .int od, .int tb]) := (sh_up_eq _ _ _)
  exact sh_return dc_Sync_enqueue_28 rfl (by decide) (by decide)
theorem pt_Sync_enqueue_Latch_2 {n : Nat} {h : sh_Hp} {q : Nat} {u : Nat} {m : Int32} {a : UInt64} {kd : Int32} {wt : Nat} {ws : UInt64} {wc : Int32} {ct : Int32} {rw : Nat} {cn : Int32} {rl : List Value} {t : Int32} {pr : UInt64} {fl : Int32} {oc : Int32} {pl : Option Nat} {mo : Int32} {he : Int32} {en : UInt64} {si : UInt64} {dd : Int32} {od : Int32} {tb : Int32} {w21_5 : Value} (f_q : h q = some (false, 6, [.int kd, .ref wt, .double ws, .int wc, .int ct])) (f_wt : h wt = some (false, 2, [.ref rw, .int cn])) (f_rw : h rw = some (true, 4, rl)) (f_u : h u = some (false, 1, [.int t, .double pr, .int fl, .int oc, va_rf pl, .int mo, .int he, .double en, .double si, .int dd, .int od, .int tb])) (n_q_rw : q ≠ rw) (n_q_u : q ≠ u) (n_q_wt : q ≠ wt) (n_rw_u : rw ≠ u) (n_rw_wt : rw ≠ wt) (n_u_rw : u ≠ rw) (n_u_wt : u ≠ wt) (n_wt_rw : wt ≠ rw) (n_wt_u : wt ≠ u) (c0_5 : ¬ (Int32.ofNat rl.length) ≤ cn) (v1_5 : ¬ cn < 0) (v2_5 : rl[cn.toNatClampNeg]? = some w21_5) : sh_M md_Sync_enqueue [.ref q, .ref u, .int m, .double a] (n, h) (.inl (none, (n, (sh_up (sh_up (sh_up h rw (true, 4, (rl.set cn.toNatClampNeg (.ref u)))) wt (false, 2, [.ref rw, .int (cn + 1)])) u (false, 1, [.int t, .double pr, .int fl, .int 0, .ref q, .int m, .int he, .double en, .double a, .int dd, .int od, .int tb]))))) := by
  refine sh_aload_n dc_Sync_enqueue_0 rfl rfl ?_
  refine sh_get (k := 1) dc_Sync_enqueue_1 f_q rfl (by decide) fl_Sync_18 rfl ?_
  refine sh_aload_n dc_Sync_enqueue_4 rfl rfl ?_
  refine sh_callR (sh_virt (As := [.ref u]) dc_Sync_enqueue_5 lm_Waiters_add ln_Sync_22 wd_615 wd_16 rfl rfl (Nat.le_of_ble_eq_true rfl) f_wt rfl) (pt_Waiters_add_2 (pl := pl) f_wt f_rw f_u n_wt_rw n_rw_wt n_u_wt n_u_rw c0_5 v1_5 v2_5) ⟨(Nat.le_of_ble_eq_true rfl), (Nat.le_of_ble_eq_true rfl), (Nat.le_of_ble_eq_true rfl), (Nat.le_of_ble_eq_true rfl)⟩ ?_
  show sh_V _ (_, _, []) (n, (sh_up (sh_up h rw (true, 4, (rl.set cn.toNatClampNeg (.ref u)))) wt (false, 2, [.ref rw, .int (cn + 1)]))) _ _ _
  have f_q_1 : (sh_up (sh_up h rw (true, 4, (rl.set cn.toNatClampNeg (.ref u)))) wt (false, 2, [.ref rw, .int (cn + 1)])) q = some (false, 6, [.int kd, .ref wt, .double ws, .int wc, .int ct]) := ((sh_up_ne n_q_wt).trans ((sh_up_ne n_q_rw).trans f_q))
  have f_wt_1 : (sh_up (sh_up h rw (true, 4, (rl.set cn.toNatClampNeg (.ref u)))) wt (false, 2, [.ref rw, .int (cn + 1)])) wt = some (false, 2, [.ref rw, .int (cn + 1)]) := (sh_up_eq _ _ _)
  have f_rw_1 : (sh_up (sh_up h rw (true, 4, (rl.set cn.toNatClampNeg (.ref u)))) wt (false, 2, [.ref rw, .int (cn + 1)])) rw = some (true, 4, (rl.set cn.toNatClampNeg (.ref u))) := ((sh_up_ne n_rw_wt).trans (sh_up_eq _ _ _))
  have f_u_1 : (sh_up (sh_up h rw (true, 4, (rl.set cn.toNatClampNeg (.ref u)))) wt (false, 2, [.ref rw, .int (cn + 1)])) u = some (false, 1, [.int t, .double pr, .int fl, .int oc, va_rf pl, .int mo, .int he, .double en, .double si, .int dd, .int od, .int tb]) := ((sh_up_ne n_u_wt).trans ((sh_up_ne n_u_rw).trans f_u))
  refine sh_aload_n dc_Sync_enqueue_8 rfl rfl ?_
  refine sh_aload_n dc_Sync_enqueue_9 rfl rfl ?_
  refine sh_put (k := 4) dc_Sync_enqueue_10 f_u_1 rfl (by decide) fl_Sync_26 rfl pd_LSync rfl rfl ?_
  show sh_V _ _ (n, (sh_up (sh_up (sh_up h rw (true, 4, (rl.set cn.toNatClampNeg (.ref u)))) wt (false, 2, [.ref rw, .int (cn + 1)])) u (false, 1, [.int t, .double pr, .int fl, .int oc, .ref q, .int mo, .int he, .double en, .double si, .int dd, .int od, .int tb]))) _ _ _
  have f_q_2 : (sh_up (sh_up (sh_up h rw (true, 4, (rl.set cn.toNatClampNeg (.ref u)))) wt (false, 2, [.ref rw, .int (cn + 1)])) u (false, 1, [.int t, .double pr, .int fl, .int oc, .ref q, .int mo, .int he, .double en, .double si, .int dd, .int od, .int tb])) q = some (false, 6, [.int kd, .ref wt, .double ws, .int wc, .int ct]) := ((sh_up_ne n_q_u).trans ((sh_up_ne n_q_wt).trans ((sh_up_ne n_q_rw).trans f_q)))
  have f_wt_2 : (sh_up (sh_up (sh_up h rw (true, 4, (rl.set cn.toNatClampNeg (.ref u)))) wt (false, 2, [.ref rw, .int (cn + 1)])) u (false, 1, [.int t, .double pr, .int fl, .int oc, .ref q, .int mo, .int he, .double en, .double si, .int dd, .int od, .int tb])) wt = some (false, 2, [.ref rw, .int (cn + 1)]) := ((sh_up_ne n_wt_u).trans (sh_up_eq _ _ _))
  have f_rw_2 : (sh_up (sh_up (sh_up h rw (true, 4, (rl.set cn.toNatClampNeg (.ref u)))) wt (false, 2, [.ref rw, .int (cn + 1)])) u (false, 1, [.int t, .double pr, .int fl, .int oc, .ref q, .int mo, .int he, .double en, .double si, .int dd, .int od, .int tb])) rw = some (true, 4, (rl.set cn.toNatClampNeg (.ref u))) := ((sh_up_ne n_rw_u).trans ((sh_up_ne n_rw_wt).trans (sh_up_eq _ _ _)))
  have f_u_2 : (sh_up (sh_up (sh_up h rw (true, 4, (rl.set cn.toNatClampNeg (.ref u)))) wt (false, 2, [.ref rw, .int (cn + 1)])) u (false, 1, [.int t, .double pr, .int fl, .int oc, .ref q, .int mo, .int he, .double en, .double si, .int dd, .int od, .int tb])) u = some (false, 1, [.int t, .double pr, .int fl, .int oc, .ref q, .int mo, .int he, .double en, .double si, .int dd, .int od, .int tb]) := (sh_up_eq _ _ _)
  refine sh_aload_n dc_Sync_enqueue_13 rfl rfl ?_
  refine sh_iload_n dc_Sync_enqueue_14 rfl rfl ?_
  refine sh_put (k := 5) dc_Sync_enqueue_15 f_u_2 rfl (by decide) fl_Sync_32 rfl pd_I rfl rfl ?_
  refine sh_Vh (sh_up_up _ _ _ _) ?_
  show sh_V _ _ (n, (sh_up (sh_up (sh_up h rw (true, 4, (rl.set cn.toNatClampNeg (.ref u)))) wt (false, 2, [.ref rw, .int (cn + 1)])) u (false, 1, [.int t, .double pr, .int fl, .int oc, .ref q, .int m, .int he, .double en, .double si, .int dd, .int od, .int tb]))) _ _ _
  have f_q_3 : (sh_up (sh_up (sh_up h rw (true, 4, (rl.set cn.toNatClampNeg (.ref u)))) wt (false, 2, [.ref rw, .int (cn + 1)])) u (false, 1, [.int t, .double pr, .int fl, .int oc, .ref q, .int m, .int he, .double en, .double si, .int dd, .int od, .int tb])) q = some (false, 6, [.int kd, .ref wt, .double ws, .int wc, .int ct]) := ((sh_up_ne n_q_u).trans ((sh_up_ne n_q_wt).trans ((sh_up_ne n_q_rw).trans f_q)))
  have f_wt_3 : (sh_up (sh_up (sh_up h rw (true, 4, (rl.set cn.toNatClampNeg (.ref u)))) wt (false, 2, [.ref rw, .int (cn + 1)])) u (false, 1, [.int t, .double pr, .int fl, .int oc, .ref q, .int m, .int he, .double en, .double si, .int dd, .int od, .int tb])) wt = some (false, 2, [.ref rw, .int (cn + 1)]) := ((sh_up_ne n_wt_u).trans (sh_up_eq _ _ _))
  have f_rw_3 : (sh_up (sh_up (sh_up h rw (true, 4, (rl.set cn.toNatClampNeg (.ref u)))) wt (false, 2, [.ref rw, .int (cn + 1)])) u (false, 1, [.int t, .double pr, .int fl, .int oc, .ref q, .int m, .int he, .double en, .double si, .int dd, .int od, .int tb])) rw = some (true, 4, (rl.set cn.toNatClampNeg (.ref u))) := ((sh_up_ne n_rw_u).trans ((sh_up_ne n_rw_wt).trans (sh_up_eq _ _ _)))
  have f_u_3 : (sh_up (sh_up (sh_up h rw (true, 4, (rl.set cn.toNatClampNeg (.ref u)))) wt (false, 2, [.ref rw, .int (cn + 1)])) u (false, 1, [.int t, .double pr, .int fl, .int oc, .ref q, .int m, .int he, .double en, .double si, .int dd, .int od, .int tb])) u = some (false, 1, [.int t, .double pr, .int fl, .int oc, .ref q, .int m, .int he, .double en, .double si, .int dd, .int od, .int tb]) := (sh_up_eq _ _ _)
  refine sh_aload_n dc_Sync_enqueue_18 rfl rfl ?_
  refine sh_dload_n dc_Sync_enqueue_19 rfl rfl ?_
  refine sh_put (k := 8) dc_Sync_enqueue_20 f_u_3 rfl (by decide) fl_Sync_35 rfl pd_D rfl rfl ?_
  refine sh_Vh (sh_up_up _ _ _ _) ?_
  show sh_V _ _ (n, (sh_up (sh_up (sh_up h rw (true, 4, (rl.set cn.toNatClampNeg (.ref u)))) wt (false, 2, [.ref rw, .int (cn + 1)])) u (false, 1, [.int t, .double pr, .int fl, .int oc, .ref q, .int m, .int he, .double en, .double a, .int dd, .int od, .int tb]))) _ _ _
  have f_q_4 : (sh_up (sh_up (sh_up h rw (true, 4, (rl.set cn.toNatClampNeg (.ref u)))) wt (false, 2, [.ref rw, .int (cn + 1)])) u (false, 1, [.int t, .double pr, .int fl, .int oc, .ref q, .int m, .int he, .double en, .double a, .int dd, .int od, .int tb])) q = some (false, 6, [.int kd, .ref wt, .double ws, .int wc, .int ct]) := ((sh_up_ne n_q_u).trans ((sh_up_ne n_q_wt).trans ((sh_up_ne n_q_rw).trans f_q)))
  have f_wt_4 : (sh_up (sh_up (sh_up h rw (true, 4, (rl.set cn.toNatClampNeg (.ref u)))) wt (false, 2, [.ref rw, .int (cn + 1)])) u (false, 1, [.int t, .double pr, .int fl, .int oc, .ref q, .int m, .int he, .double en, .double a, .int dd, .int od, .int tb])) wt = some (false, 2, [.ref rw, .int (cn + 1)]) := ((sh_up_ne n_wt_u).trans (sh_up_eq _ _ _))
  have f_rw_4 : (sh_up (sh_up (sh_up h rw (true, 4, (rl.set cn.toNatClampNeg (.ref u)))) wt (false, 2, [.ref rw, .int (cn + 1)])) u (false, 1, [.int t, .double pr, .int fl, .int oc, .ref q, .int m, .int he, .double en, .double a, .int dd, .int od, .int tb])) rw = some (true, 4, (rl.set cn.toNatClampNeg (.ref u))) := ((sh_up_ne n_rw_u).trans ((sh_up_ne n_rw_wt).trans (sh_up_eq _ _ _)))
  have f_u_4 : (sh_up (sh_up (sh_up h rw (true, 4, (rl.set cn.toNatClampNeg (.ref u)))) wt (false, 2, [.ref rw, .int (cn + 1)])) u (false, 1, [.int t, .double pr, .int fl, .int oc, .ref q, .int m, .int he, .double en, .double a, .int dd, .int od, .int tb])) u = some (false, 1, [.int t, .double pr, .int fl, .int oc, .ref q, .int m, .int he, .double en, .double a, .int dd, .int od, .int tb]) := (sh_up_eq _ _ _)
  refine sh_aload_n dc_Sync_enqueue_23 rfl rfl ?_
  refine sh_iconst (v := 0) dc_Sync_enqueue_24 (by decide) ?_
  refine sh_put (k := 3) dc_Sync_enqueue_25 f_u_4 rfl (by decide) fl_Sync_39 rfl pd_I rfl rfl ?_
  refine sh_Vh (sh_up_up _ _ _ _) ?_
  show sh_V _ _ (n, (sh_up (sh_up (sh_up h rw (true, 4, (rl.set cn.toNatClampNeg (.ref u)))) wt (false, 2, [.ref rw, .int (cn + 1)])) u (false, 1, [.int t, .double pr, .int fl, .int 0, .ref q, .int m, .int he, .double en, .double a, .int dd, .int od, .int tb]))) _ _ _
  have f_q_5 : (sh_up (sh_up (sh_up h rw (true, 4, (rl.set cn.toNatClampNeg (.ref u)))) wt (false, 2, [.ref rw, .int (cn + 1)])) u (false, 1, [.int t, .double pr, .int fl, .int 0, .ref q, .int m, .int he, .double en, .double a, .int dd, .int od, .int tb])) q = some (false, 6, [.int kd, .ref wt, .double ws, .int wc, .int ct]) := ((sh_up_ne n_q_u).trans ((sh_up_ne n_q_wt).trans ((sh_up_ne n_q_rw).trans f_q)))
  have f_wt_5 : (sh_up (sh_up (sh_up h rw (true, 4, (rl.set cn.toNatClampNeg (.ref u)))) wt (false, 2, [.ref rw, .int (cn + 1)])) u (false, 1, [.int t, .double pr, .int fl, .int 0, .ref q, .int m, .int he, .double en, .double a, .int dd, .int od, .int tb])) wt = some (false, 2, [.ref rw, .int (cn + 1)]) := ((sh_up_ne n_wt_u).trans (sh_up_eq _ _ _))
  have f_rw_5 : (sh_up (sh_up (sh_up h rw (true, 4, (rl.set cn.toNatClampNeg (.ref u)))) wt (false, 2, [.ref rw, .int (cn + 1)])) u (false, 1, [.int t, .double pr, .int fl, .int 0, .ref q, .int m, .int he, .double en, .double a, .int dd, .int od, .int tb])) rw = some (true, 4, (rl.set cn.toNatClampNeg (.ref u))) := ((sh_up_ne n_rw_u).trans ((sh_up_ne n_rw_wt).trans (sh_up_eq _ _ _)))
  have f_u_5 : (sh_up (sh_up (sh_up h rw (true, 4, (rl.set cn.toNatClampNeg (.ref u)))) wt (false, 2, [.ref rw, .int (cn + 1)])) u (false, 1, [.int t, .double pr, .int fl, .int 0, .ref q, .int m, .int he, .double en, .double a, .int dd, .int od, .int tb])) u = some (false, 1, [.int t, .double pr, .int fl, .int 0, .ref q, .int m, .int he, .double en, .double a, .int dd, .int od, .int tb]) := (sh_up_eq _ _ _)
  exact sh_return dc_Sync_enqueue_28 rfl (by decide) (by decide)
theorem pt_Hall_gateOf_Latch_1 {n : Nat} {h : sh_Hp} {q : Nat} {kd : Int32} {wt : Nat} {ws : UInt64} {wc : Int32} {ct : Int32} (f_q : h q = some (false, 6, [.int kd, .ref wt, .double ws, .int wc, .int ct])) : sh_M md_Hall_gateOf [.ref q] (n, h) (.inl (some (.ref q), (n, h))) := by
  refine sh_aload_n dc_Hall_gateOf_0 rfl rfl ?_
  refine sh_instY dc_Hall_gateOf_1 wd_473 f_q rfl (Or.inr wd_1088) ?_
  refine sh_if_eq (tgt := 14) dc_Hall_gateOf_4 (by decide) (fun z => absurd z (by decide)) (fun _ => ?_)
  refine sh_aload_n dc_Hall_gateOf_7 rfl rfl ?_
  refine sh_castY dc_Hall_gateOf_8 wd_473 f_q rfl (Or.inr wd_1088) ?_
  refine sh_astore_n dc_Hall_gateOf_11 rfl (by decide) ?_
  refine sh_aload_n dc_Hall_gateOf_12 rfl rfl ?_
  exact sh_areturn (v := (some q)) dc_Hall_gateOf_13 rfl (by decide) (by decide)
theorem pt_Sync_addWaited_Shared_1 {n : Nat} {h : sh_Hp} {q : Nat} {x : UInt64} {kd : Int32} {wt : Nat} {ws : UInt64} {wc : Int32} {rd : Nat} {wr : Option Nat} {dp : Int32} (f_q : h q = some (false, 7, [.int kd, .ref wt, .double ws, .int wc, .ref rd, va_rf wr, .int dp])) (v0_6 : vf_n64 (FP.dadd ws x)) : sh_M md_Sync_addWaited [.ref q, .double x] (n, h) (.inl (none, (n, (sh_up h q (false, 7, [.int kd, .ref wt, .double (FP.dadd ws x), .int (wc + 1), .ref rd, va_rf wr, .int dp]))))) := by
  refine sh_aload_n dc_Sync_addWaited_0 rfl rfl ?_
  refine sh_aload_n dc_Sync_addWaited_1 rfl rfl ?_
  refine sh_get (k := 2) dc_Sync_addWaited_2 f_q rfl (by decide) fl_Sync_49 rfl ?_
  refine sh_dload_n dc_Sync_addWaited_5 rfl rfl ?_
  refine sh_dadd dc_Sync_addWaited_6 v0_6 ?_
  refine sh_put (k := 2) dc_Sync_addWaited_7 f_q rfl (by decide) fl_Sync_49 rfl pd_D rfl rfl ?_
  show sh_V _ _ (n, (sh_up h q (false, 7, [.int kd, .ref wt, .double (FP.dadd ws x), .int wc, .ref rd, va_rf wr, .int dp]))) _ _ _
  have f_q_1 : (sh_up h q (false, 7, [.int kd, .ref wt, .double (FP.dadd ws x), .int wc, .ref rd, va_rf wr, .int dp])) q = some (false, 7, [.int kd, .ref wt, .double (FP.dadd ws x), .int wc, .ref rd, va_rf wr, .int dp]) := (sh_up_eq _ _ _)
  refine sh_aload_n dc_Sync_addWaited_10 rfl rfl ?_
  refine sh_dup dc_Sync_addWaited_11 rfl ?_
  refine sh_get (k := 3) dc_Sync_addWaited_12 f_q_1 rfl (by decide) fl_Sync_52 rfl ?_
  refine sh_iconst (v := 1) dc_Sync_addWaited_15 (by decide) ?_
  refine sh_iadd dc_Sync_addWaited_16 ?_
  refine sh_put (k := 3) dc_Sync_addWaited_17 f_q_1 rfl (by decide) fl_Sync_52 rfl pd_I rfl rfl ?_
  refine sh_Vh (sh_up_up _ _ _ _) ?_
  show sh_V _ _ (n, (sh_up h q (false, 7, [.int kd, .ref wt, .double (FP.dadd ws x), .int (wc + 1), .ref rd, va_rf wr, .int dp]))) _ _ _
  have f_q_2 : (sh_up h q (false, 7, [.int kd, .ref wt, .double (FP.dadd ws x), .int (wc + 1), .ref rd, va_rf wr, .int dp])) q = some (false, 7, [.int kd, .ref wt, .double (FP.dadd ws x), .int (wc + 1), .ref rd, va_rf wr, .int dp]) := (sh_up_eq _ _ _)
  exact sh_return dc_Sync_addWaited_20 rfl (by decide) (by decide)
theorem pt_Sync_amount_Shared_1 {n : Nat} {h : sh_Hp} {q : Nat} {kd : Int32} {wt : Nat} {ws : UInt64} {wc : Int32} {rd : Nat} {wr : Option Nat} {dp : Int32} (f_q : h q = some (false, 7, [.int kd, .ref wt, .double ws, .int wc, .ref rd, va_rf wr, .int dp])) : sh_M md_Sync_amount [.ref q] (n, h) (.inl (some (.int 0), (n, h))) := by
  refine sh_iconst (v := 0) dc_Sync_amount_0 (by decide) ?_
  exact sh_ireturn dc_Sync_amount_1 rfl rfl (by decide) (by decide)
theorem pt_Sync_enqueue_Shared_1 {n : Nat} {h : sh_Hp} {q : Nat} {u : Nat} {m : Int32} {a : UInt64} {kd : Int32} {wt : Nat} {ws : UInt64} {wc : Int32} {rd : Nat} {wr : Option Nat} {dp : Int32} {rw : Nat} {cn : Int32} {rl : List Value} {t : Int32} {pr : UInt64} {fl : Int32} {oc : Int32} {pl : Option Nat} {mo : Int32} {he : Int32} {en : UInt64} {si : UInt64} {dd : Int32} {od : Int32} {tb : Int32} (f_q : h q = some (false, 7, [.int kd, .ref wt, .double ws, .int wc, .ref rd, va_rf wr, .int dp])) (f_wt : h wt = some (false, 2, [.ref rw, .int cn])) (f_rw : h rw = some (true, 4, rl)) (f_u : h u = some (false, 1, [.int t, .double pr, .int fl, .int oc, va_rf pl, .int mo, .int he, .double en, .double si, .int dd, .int od, .int tb])) (n_q_u : q ≠ u) (n_rw_u : rw ≠ u) (n_wt_u : wt ≠ u) (c0_5 : (Int32.ofNat rl.length) ≤ cn) : sh_M md_Sync_enqueue [.ref q, .ref u, .int m, .double a] (n, h) (.inl (none, (n, (sh_up h u (false, 1, [.int t, .double pr, .int fl, .int 0, .ref q, .int m, .int he, .double en, .double a, .int dd, .int od, .int tb]))))) := by
  refine sh_aload_n dc_Sync_enqueue_0 rfl rfl ?_
  refine sh_get (k := 1) dc_Sync_enqueue_1 f_q rfl (by decide) fl_Sync_18 rfl ?_
  refine sh_aload_n dc_Sync_enqueue_4 rfl rfl ?_
  refine sh_callR (sh_virt (As := [.ref u]) dc_Sync_enqueue_5 lm_Waiters_add ln_Sync_22 wd_615 wd_16 rfl rfl (Nat.le_of_ble_eq_true rfl) f_wt rfl) (pt_Waiters_add_1 (pl := pl) f_wt f_rw f_u c0_5) ⟨(Nat.le_of_ble_eq_true rfl), (Nat.le_of_ble_eq_true rfl), (Nat.le_of_ble_eq_true rfl), (Nat.le_of_ble_eq_true rfl)⟩ ?_
  show sh_V _ (_, _, []) (n, h) _ _ _
  refine sh_aload_n dc_Sync_enqueue_8 rfl rfl ?_
  refine sh_aload_n dc_Sync_enqueue_9 rfl rfl ?_
  refine sh_put (k := 4) dc_Sync_enqueue_10 f_u rfl (by decide) fl_Sync_26 rfl pd_LSync rfl rfl ?_
  show sh_V _ _ (n, (sh_up h u (false, 1, [.int t, .double pr, .int fl, .int oc, .ref q, .int mo, .int he, .double en, .double si, .int dd, .int od, .int tb]))) _ _ _
  have f_q_1 : (sh_up h u (false, 1, [.int t, .double pr, .int fl, .int oc, .ref q, .int mo, .int he, .double en, .double si, .int dd, .int od, .int tb])) q = some (false, 7, [.int kd, .ref wt, .double ws, .int wc, .ref rd, va_rf wr, .int dp]) := ((sh_up_ne n_q_u).trans f_q)
  have f_wt_1 : (sh_up h u (false, 1, [.int t, .double pr, .int fl, .int oc, .ref q, .int mo, .int he, .double en, .double si, .int dd, .int od, .int tb])) wt = some (false, 2, [.ref rw, .int cn]) := ((sh_up_ne n_wt_u).trans f_wt)
  have f_rw_1 : (sh_up h u (false, 1, [.int t, .double pr, .int fl, .int oc, .ref q, .int mo, .int he, .double en, .double si, .int dd, .int od, .int tb])) rw = some (true, 4, rl) := ((sh_up_ne n_rw_u).trans f_rw)
  have f_u_1 : (sh_up h u (false, 1, [.int t, .double pr, .int fl, .int oc, .ref q, .int mo, .int he, .double en, .double si, .int dd, .int od, .int tb])) u = some (false, 1, [.int t, .double pr, .int fl, .int oc, .ref q, .int mo, .int he, .double en, .double si, .int dd, .int od, .int tb]) := (sh_up_eq _ _ _)
  refine sh_aload_n dc_Sync_enqueue_13 rfl rfl ?_
  refine sh_iload_n dc_Sync_enqueue_14 rfl rfl ?_
  refine sh_put (k := 5) dc_Sync_enqueue_15 f_u_1 rfl (by decide) fl_Sync_32 rfl pd_I rfl rfl ?_
  refine sh_Vh (sh_up_up _ _ _ _) ?_
  show sh_V _ _ (n, (sh_up h u (false, 1, [.int t, .double pr, .int fl, .int oc, .ref q, .int m, .int he, .double en, .double si, .int dd, .int od, .int tb]))) _ _ _
  have f_q_2 : (sh_up h u (false, 1, [.int t, .double pr, .int fl, .int oc, .ref q, .int m, .int he, .double en, .double si, .int dd, .int od, .int tb])) q = some (false, 7, [.int kd, .ref wt, .double ws, .int wc, .ref rd, va_rf wr, .int dp]) := ((sh_up_ne n_q_u).trans f_q)
  have f_wt_2 : (sh_up h u (false, 1, [.int t, .double pr, .int fl, .int oc, .ref q, .int m, .int he, .double en, .double si, .int dd, .int od, .int tb])) wt = some (false, 2, [.ref rw, .int cn]) := ((sh_up_ne n_wt_u).trans f_wt)
  have f_rw_2 : (sh_up h u (false, 1, [.int t, .double pr, .int fl, .int oc, .ref q, .int m, .int he, .double en, .double si, .int dd, .int od, .int tb])) rw = some (true, 4, rl) := ((sh_up_ne n_rw_u).trans f_rw)
  have f_u_2 : (sh_up h u (false, 1, [.int t, .double pr, .int fl, .int oc, .ref q, .int m, .int he, .double en, .double si, .int dd, .int od, .int tb])) u = some (false, 1, [.int t, .double pr, .int fl, .int oc, .ref q, .int m, .int he, .double en, .double si, .int dd, .int od, .int tb]) := (sh_up_eq _ _ _)
  refine sh_aload_n dc_Sync_enqueue_18 rfl rfl ?_
  refine sh_dload_n dc_Sync_enqueue_19 rfl rfl ?_
  refine sh_put (k := 8) dc_Sync_enqueue_20 f_u_2 rfl (by decide) fl_Sync_35 rfl pd_D rfl rfl ?_
  refine sh_Vh (sh_up_up _ _ _ _) ?_
  show sh_V _ _ (n, (sh_up h u (false, 1, [.int t, .double pr, .int fl, .int oc, .ref q, .int m, .int he, .double en, .double a, .int dd, .int od, .int tb]))) _ _ _
  have f_q_3 : (sh_up h u (false, 1, [.int t, .double pr, .int fl, .int oc, .ref q, .int m, .int he, .double en, .double a, .int dd, .int od, .int tb])) q = some (false, 7, [.int kd, .ref wt, .double ws, .int wc, .ref rd, va_rf wr, .int dp]) := ((sh_up_ne n_q_u).trans f_q)
  have f_wt_3 : (sh_up h u (false, 1, [.int t, .double pr, .int fl, .int oc, .ref q, .int m, .int he, .double en, .double a, .int dd, .int od, .int tb])) wt = some (false, 2, [.ref rw, .int cn]) := ((sh_up_ne n_wt_u).trans f_wt)
  have f_rw_3 : (sh_up h u (false, 1, [.int t, .double pr, .int fl, .int oc, .ref q, .int m, .int he, .double en, .double a, .int dd, .int od, .int tb])) rw = some (true, 4, rl) := ((sh_up_ne n_rw_u).trans f_rw)
  have f_u_3 : (sh_up h u (false, 1, [.int t, .double pr, .int fl, .int oc, .ref q, .int m, .int he, .double en, .double a, .int dd, .int od, .int tb])) u = some (false, 1, [.int t, .double pr, .int fl, .int oc, .ref q, .int m, .int he, .double en, .double a, .int dd, .int od, .int tb]) := (sh_up_eq _ _ _)
  refine sh_aload_n dc_Sync_enqueue_23 rfl rfl ?_
  refine sh_iconst (v := 0) dc_Sync_enqueue_24 (by decide) ?_
  refine sh_put (k := 3) dc_Sync_enqueue_25 f_u_3 rfl (by decide) fl_Sync_39 rfl pd_I rfl rfl ?_
  refine sh_Vh (sh_up_up _ _ _ _) ?_
  show sh_V _ _ (n, (sh_up h u (false, 1, [.int t, .double pr, .int fl, .int 0, .ref q, .int m, .int he, .double en, .double a, .int dd, .int od, .int tb]))) _ _ _
  have f_q_4 : (sh_up h u (false, 1, [.int t, .double pr, .int fl, .int 0, .ref q, .int m, .int he, .double en, .double a, .int dd, .int od, .int tb])) q = some (false, 7, [.int kd, .ref wt, .double ws, .int wc, .ref rd, va_rf wr, .int dp]) := ((sh_up_ne n_q_u).trans f_q)
  have f_wt_4 : (sh_up h u (false, 1, [.int t, .double pr, .int fl, .int 0, .ref q, .int m, .int he, .double en, .double a, .int dd, .int od, .int tb])) wt = some (false, 2, [.ref rw, .int cn]) := ((sh_up_ne n_wt_u).trans f_wt)
  have f_rw_4 : (sh_up h u (false, 1, [.int t, .double pr, .int fl, .int 0, .ref q, .int m, .int he, .double en, .double a, .int dd, .int od, .int tb])) rw = some (true, 4, rl) := ((sh_up_ne n_rw_u).trans f_rw)
  have f_u_4 : (sh_up h u (false, 1, [.int t, .double pr, .int fl, .int 0, .ref q, .int m, .int he, .double en, .double a, .int dd, .int od, .int tb])) u = some (false, 1, [.int t, .double pr, .int fl, .int 0, .ref q, .int m, .int he, .double en, .double a, .int dd, .int od, .int tb]) := (sh_up_eq _ _ _)
  exact sh_return dc_Sync_enqueue_28 rfl (by decide) (by decide)
theorem pt_Sync_enqueue_Shared_2 {n : Nat} {h : sh_Hp} {q : Nat} {u : Nat} {m : Int32} {a : UInt64} {kd : Int32} {wt : Nat} {ws : UInt64} {wc : Int32} {rd : Nat} {wr : Option Nat} {dp : Int32} {rw : Nat} {cn : Int32} {rl : List Value} {t : Int32} {pr : UInt64} {fl : Int32} {oc : Int32} {pl : Option Nat} {mo : Int32} {he : Int32} {en : UInt64} {si : UInt64} {dd : Int32} {od : Int32} {tb : Int32} {w21_5 : Value} (f_q : h q = some (false, 7, [.int kd, .ref wt, .double ws, .int wc, .ref rd, va_rf wr, .int dp])) (f_wt : h wt = some (false, 2, [.ref rw, .int cn])) (f_rw : h rw = some (true, 4, rl)) (f_u : h u = some (false, 1, [.int t, .double pr, .int fl, .int oc, va_rf pl, .int mo, .int he, .double en, .double si, .int dd, .int od, .int tb])) (n_q_rw : q ≠ rw) (n_q_u : q ≠ u) (n_q_wt : q ≠ wt) (n_rw_u : rw ≠ u) (n_rw_wt : rw ≠ wt) (n_u_rw : u ≠ rw) (n_u_wt : u ≠ wt) (n_wt_rw : wt ≠ rw) (n_wt_u : wt ≠ u) (c0_5 : ¬ (Int32.ofNat rl.length) ≤ cn) (v1_5 : ¬ cn < 0) (v2_5 : rl[cn.toNatClampNeg]? = some w21_5) : sh_M md_Sync_enqueue [.ref q, .ref u, .int m, .double a] (n, h) (.inl (none, (n, (sh_up (sh_up (sh_up h rw (true, 4, (rl.set cn.toNatClampNeg (.ref u)))) wt (false, 2, [.ref rw, .int (cn + 1)])) u (false, 1, [.int t, .double pr, .int fl, .int 0, .ref q, .int m, .int he, .double en, .double a, .int dd, .int od, .int tb]))))) := by
  refine sh_aload_n dc_Sync_enqueue_0 rfl rfl ?_
  refine sh_get (k := 1) dc_Sync_enqueue_1 f_q rfl (by decide) fl_Sync_18 rfl ?_
  refine sh_aload_n dc_Sync_enqueue_4 rfl rfl ?_
  refine sh_callR (sh_virt (As := [.ref u]) dc_Sync_enqueue_5 lm_Waiters_add ln_Sync_22 wd_615 wd_16 rfl rfl (Nat.le_of_ble_eq_true rfl) f_wt rfl) (pt_Waiters_add_2 (pl := pl) f_wt f_rw f_u n_wt_rw n_rw_wt n_u_wt n_u_rw c0_5 v1_5 v2_5) ⟨(Nat.le_of_ble_eq_true rfl), (Nat.le_of_ble_eq_true rfl), (Nat.le_of_ble_eq_true rfl), (Nat.le_of_ble_eq_true rfl)⟩ ?_
  show sh_V _ (_, _, []) (n, (sh_up (sh_up h rw (true, 4, (rl.set cn.toNatClampNeg (.ref u)))) wt (false, 2, [.ref rw, .int (cn + 1)]))) _ _ _
  have f_q_1 : (sh_up (sh_up h rw (true, 4, (rl.set cn.toNatClampNeg (.ref u)))) wt (false, 2, [.ref rw, .int (cn + 1)])) q = some (false, 7, [.int kd, .ref wt, .double ws, .int wc, .ref rd, va_rf wr, .int dp]) := ((sh_up_ne n_q_wt).trans ((sh_up_ne n_q_rw).trans f_q))
  have f_wt_1 : (sh_up (sh_up h rw (true, 4, (rl.set cn.toNatClampNeg (.ref u)))) wt (false, 2, [.ref rw, .int (cn + 1)])) wt = some (false, 2, [.ref rw, .int (cn + 1)]) := (sh_up_eq _ _ _)
  have f_rw_1 : (sh_up (sh_up h rw (true, 4, (rl.set cn.toNatClampNeg (.ref u)))) wt (false, 2, [.ref rw, .int (cn + 1)])) rw = some (true, 4, (rl.set cn.toNatClampNeg (.ref u))) := ((sh_up_ne n_rw_wt).trans (sh_up_eq _ _ _))
  have f_u_1 : (sh_up (sh_up h rw (true, 4, (rl.set cn.toNatClampNeg (.ref u)))) wt (false, 2, [.ref rw, .int (cn + 1)])) u = some (false, 1, [.int t, .double pr, .int fl, .int oc, va_rf pl, .int mo, .int he, .double en, .double si, .int dd, .int od, .int tb]) := ((sh_up_ne n_u_wt).trans ((sh_up_ne n_u_rw).trans f_u))
  refine sh_aload_n dc_Sync_enqueue_8 rfl rfl ?_
  refine sh_aload_n dc_Sync_enqueue_9 rfl rfl ?_
  refine sh_put (k := 4) dc_Sync_enqueue_10 f_u_1 rfl (by decide) fl_Sync_26 rfl pd_LSync rfl rfl ?_
  show sh_V _ _ (n, (sh_up (sh_up (sh_up h rw (true, 4, (rl.set cn.toNatClampNeg (.ref u)))) wt (false, 2, [.ref rw, .int (cn + 1)])) u (false, 1, [.int t, .double pr, .int fl, .int oc, .ref q, .int mo, .int he, .double en, .double si, .int dd, .int od, .int tb]))) _ _ _
  have f_q_2 : (sh_up (sh_up (sh_up h rw (true, 4, (rl.set cn.toNatClampNeg (.ref u)))) wt (false, 2, [.ref rw, .int (cn + 1)])) u (false, 1, [.int t, .double pr, .int fl, .int oc, .ref q, .int mo, .int he, .double en, .double si, .int dd, .int od, .int tb])) q = some (false, 7, [.int kd, .ref wt, .double ws, .int wc, .ref rd, va_rf wr, .int dp]) := ((sh_up_ne n_q_u).trans ((sh_up_ne n_q_wt).trans ((sh_up_ne n_q_rw).trans f_q)))
  have f_wt_2 : (sh_up (sh_up (sh_up h rw (true, 4, (rl.set cn.toNatClampNeg (.ref u)))) wt (false, 2, [.ref rw, .int (cn + 1)])) u (false, 1, [.int t, .double pr, .int fl, .int oc, .ref q, .int mo, .int he, .double en, .double si, .int dd, .int od, .int tb])) wt = some (false, 2, [.ref rw, .int (cn + 1)]) := ((sh_up_ne n_wt_u).trans (sh_up_eq _ _ _))
  have f_rw_2 : (sh_up (sh_up (sh_up h rw (true, 4, (rl.set cn.toNatClampNeg (.ref u)))) wt (false, 2, [.ref rw, .int (cn + 1)])) u (false, 1, [.int t, .double pr, .int fl, .int oc, .ref q, .int mo, .int he, .double en, .double si, .int dd, .int od, .int tb])) rw = some (true, 4, (rl.set cn.toNatClampNeg (.ref u))) := ((sh_up_ne n_rw_u).trans ((sh_up_ne n_rw_wt).trans (sh_up_eq _ _ _)))
  have f_u_2 : (sh_up (sh_up (sh_up h rw (true, 4, (rl.set cn.toNatClampNeg (.ref u)))) wt (false, 2, [.ref rw, .int (cn + 1)])) u (false, 1, [.int t, .double pr, .int fl, .int oc, .ref q, .int mo, .int he, .double en, .double si, .int dd, .int od, .int tb])) u = some (false, 1, [.int t, .double pr, .int fl, .int oc, .ref q, .int mo, .int he, .double en, .double si, .int dd, .int od, .int tb]) := (sh_up_eq _ _ _)
  refine sh_aload_n dc_Sync_enqueue_13 rfl rfl ?_
  refine sh_iload_n dc_Sync_enqueue_14 rfl rfl ?_
  refine sh_put (k := 5) dc_Sync_enqueue_15 f_u_2 rfl (by decide) fl_Sync_32 rfl pd_I rfl rfl ?_
  refine sh_Vh (sh_up_up _ _ _ _) ?_
  show sh_V _ _ (n, (sh_up (sh_up (sh_up h rw (true, 4, (rl.set cn.toNatClampNeg (.ref u)))) wt (false, 2, [.ref rw, .int (cn + 1)])) u (false, 1, [.int t, .double pr, .int fl, .int oc, .ref q, .int m, .int he, .double en, .double si, .int dd, .int od, .int tb]))) _ _ _
  have f_q_3 : (sh_up (sh_up (sh_up h rw (true, 4, (rl.set cn.toNatClampNeg (.ref u)))) wt (false, 2, [.ref rw, .int (cn + 1)])) u (false, 1, [.int t, .double pr, .int fl, .int oc, .ref q, .int m, .int he, .double en, .double si, .int dd, .int od, .int tb])) q = some (false, 7, [.int kd, .ref wt, .double ws, .int wc, .ref rd, va_rf wr, .int dp]) := ((sh_up_ne n_q_u).trans ((sh_up_ne n_q_wt).trans ((sh_up_ne n_q_rw).trans f_q)))
  have f_wt_3 : (sh_up (sh_up (sh_up h rw (true, 4, (rl.set cn.toNatClampNeg (.ref u)))) wt (false, 2, [.ref rw, .int (cn + 1)])) u (false, 1, [.int t, .double pr, .int fl, .int oc, .ref q, .int m, .int he, .double en, .double si, .int dd, .int od, .int tb])) wt = some (false, 2, [.ref rw, .int (cn + 1)]) := ((sh_up_ne n_wt_u).trans (sh_up_eq _ _ _))
  have f_rw_3 : (sh_up (sh_up (sh_up h rw (true, 4, (rl.set cn.toNatClampNeg (.ref u)))) wt (false, 2, [.ref rw, .int (cn + 1)])) u (false, 1, [.int t, .double pr, .int fl, .int oc, .ref q, .int m, .int he, .double en, .double si, .int dd, .int od, .int tb])) rw = some (true, 4, (rl.set cn.toNatClampNeg (.ref u))) := ((sh_up_ne n_rw_u).trans ((sh_up_ne n_rw_wt).trans (sh_up_eq _ _ _)))
  have f_u_3 : (sh_up (sh_up (sh_up h rw (true, 4, (rl.set cn.toNatClampNeg (.ref u)))) wt (false, 2, [.ref rw, .int (cn + 1)])) u (false, 1, [.int t, .double pr, .int fl, .int oc, .ref q, .int m, .int he, .double en, .double si, .int dd, .int od, .int tb])) u = some (false, 1, [.int t, .double pr, .int fl, .int oc, .ref q, .int m, .int he, .double en, .double si, .int dd, .int od, .int tb]) := (sh_up_eq _ _ _)
  refine sh_aload_n dc_Sync_enqueue_18 rfl rfl ?_
  refine sh_dload_n dc_Sync_enqueue_19 rfl rfl ?_
  refine sh_put (k := 8) dc_Sync_enqueue_20 f_u_3 rfl (by decide) fl_Sync_35 rfl pd_D rfl rfl ?_
  refine sh_Vh (sh_up_up _ _ _ _) ?_
  show sh_V _ _ (n, (sh_up (sh_up (sh_up h rw (true, 4, (rl.set cn.toNatClampNeg (.ref u)))) wt (false, 2, [.ref rw, .int (cn + 1)])) u (false, 1, [.int t, .double pr, .int fl, .int oc, .ref q, .int m, .int he, .double en, .double a, .int dd, .int od, .int tb]))) _ _ _
  have f_q_4 : (sh_up (sh_up (sh_up h rw (true, 4, (rl.set cn.toNatClampNeg (.ref u)))) wt (false, 2, [.ref rw, .int (cn + 1)])) u (false, 1, [.int t, .double pr, .int fl, .int oc, .ref q, .int m, .int he, .double en, .double a, .int dd, .int od, .int tb])) q = some (false, 7, [.int kd, .ref wt, .double ws, .int wc, .ref rd, va_rf wr, .int dp]) := ((sh_up_ne n_q_u).trans ((sh_up_ne n_q_wt).trans ((sh_up_ne n_q_rw).trans f_q)))
  have f_wt_4 : (sh_up (sh_up (sh_up h rw (true, 4, (rl.set cn.toNatClampNeg (.ref u)))) wt (false, 2, [.ref rw, .int (cn + 1)])) u (false, 1, [.int t, .double pr, .int fl, .int oc, .ref q, .int m, .int he, .double en, .double a, .int dd, .int od, .int tb])) wt = some (false, 2, [.ref rw, .int (cn + 1)]) := ((sh_up_ne n_wt_u).trans (sh_up_eq _ _ _))
  have f_rw_4 : (sh_up (sh_up (sh_up h rw (true, 4, (rl.set cn.toNatClampNeg (.ref u)))) wt (false, 2, [.ref rw, .int (cn + 1)])) u (false, 1, [.int t, .double pr, .int fl, .int oc, .ref q, .int m, .int he, .double en, .double a, .int dd, .int od, .int tb])) rw = some (true, 4, (rl.set cn.toNatClampNeg (.ref u))) := ((sh_up_ne n_rw_u).trans ((sh_up_ne n_rw_wt).trans (sh_up_eq _ _ _)))
  have f_u_4 : (sh_up (sh_up (sh_up h rw (true, 4, (rl.set cn.toNatClampNeg (.ref u)))) wt (false, 2, [.ref rw, .int (cn + 1)])) u (false, 1, [.int t, .double pr, .int fl, .int oc, .ref q, .int m, .int he, .double en, .double a, .int dd, .int od, .int tb])) u = some (false, 1, [.int t, .double pr, .int fl, .int oc, .ref q, .int m, .int he, .double en, .double a, .int dd, .int od, .int tb]) := (sh_up_eq _ _ _)
  refine sh_aload_n dc_Sync_enqueue_23 rfl rfl ?_
  refine sh_iconst (v := 0) dc_Sync_enqueue_24 (by decide) ?_
  refine sh_put (k := 3) dc_Sync_enqueue_25 f_u_4 rfl (by decide) fl_Sync_39 rfl pd_I rfl rfl ?_
  refine sh_Vh (sh_up_up _ _ _ _) ?_
  show sh_V _ _ (n, (sh_up (sh_up (sh_up h rw (true, 4, (rl.set cn.toNatClampNeg (.ref u)))) wt (false, 2, [.ref rw, .int (cn + 1)])) u (false, 1, [.int t, .double pr, .int fl, .int 0, .ref q, .int m, .int he, .double en, .double a, .int dd, .int od, .int tb]))) _ _ _
  have f_q_5 : (sh_up (sh_up (sh_up h rw (true, 4, (rl.set cn.toNatClampNeg (.ref u)))) wt (false, 2, [.ref rw, .int (cn + 1)])) u (false, 1, [.int t, .double pr, .int fl, .int 0, .ref q, .int m, .int he, .double en, .double a, .int dd, .int od, .int tb])) q = some (false, 7, [.int kd, .ref wt, .double ws, .int wc, .ref rd, va_rf wr, .int dp]) := ((sh_up_ne n_q_u).trans ((sh_up_ne n_q_wt).trans ((sh_up_ne n_q_rw).trans f_q)))
  have f_wt_5 : (sh_up (sh_up (sh_up h rw (true, 4, (rl.set cn.toNatClampNeg (.ref u)))) wt (false, 2, [.ref rw, .int (cn + 1)])) u (false, 1, [.int t, .double pr, .int fl, .int 0, .ref q, .int m, .int he, .double en, .double a, .int dd, .int od, .int tb])) wt = some (false, 2, [.ref rw, .int (cn + 1)]) := ((sh_up_ne n_wt_u).trans (sh_up_eq _ _ _))
  have f_rw_5 : (sh_up (sh_up (sh_up h rw (true, 4, (rl.set cn.toNatClampNeg (.ref u)))) wt (false, 2, [.ref rw, .int (cn + 1)])) u (false, 1, [.int t, .double pr, .int fl, .int 0, .ref q, .int m, .int he, .double en, .double a, .int dd, .int od, .int tb])) rw = some (true, 4, (rl.set cn.toNatClampNeg (.ref u))) := ((sh_up_ne n_rw_u).trans ((sh_up_ne n_rw_wt).trans (sh_up_eq _ _ _)))
  have f_u_5 : (sh_up (sh_up (sh_up h rw (true, 4, (rl.set cn.toNatClampNeg (.ref u)))) wt (false, 2, [.ref rw, .int (cn + 1)])) u (false, 1, [.int t, .double pr, .int fl, .int 0, .ref q, .int m, .int he, .double en, .double a, .int dd, .int od, .int tb])) u = some (false, 1, [.int t, .double pr, .int fl, .int 0, .ref q, .int m, .int he, .double en, .double a, .int dd, .int od, .int tb]) := (sh_up_eq _ _ _)
  exact sh_return dc_Sync_enqueue_28 rfl (by decide) (by decide)
theorem pt_Hall_gateOf_Shared_1 {n : Nat} {h : sh_Hp} {q : Nat} {kd : Int32} {wt : Nat} {ws : UInt64} {wc : Int32} {rd : Nat} {wr : Option Nat} {dp : Int32} (f_q : h q = some (false, 7, [.int kd, .ref wt, .double ws, .int wc, .ref rd, va_rf wr, .int dp])) : sh_M md_Hall_gateOf [.ref q] (n, h) (.inl (some (.ref q), (n, h))) := by
  refine sh_aload_n dc_Hall_gateOf_0 rfl rfl ?_
  refine sh_instY dc_Hall_gateOf_1 wd_473 f_q rfl (Or.inr wd_1091) ?_
  refine sh_if_eq (tgt := 14) dc_Hall_gateOf_4 (by decide) (fun z => absurd z (by decide)) (fun _ => ?_)
  refine sh_aload_n dc_Hall_gateOf_7 rfl rfl ?_
  refine sh_castY dc_Hall_gateOf_8 wd_473 f_q rfl (Or.inr wd_1091) ?_
  refine sh_astore_n dc_Hall_gateOf_11 rfl (by decide) ?_
  refine sh_aload_n dc_Hall_gateOf_12 rfl rfl ?_
  exact sh_areturn (v := (some q)) dc_Hall_gateOf_13 rfl (by decide) (by decide)
theorem pt_Sync_addWaited_Condition_1 {n : Nat} {h : sh_Hp} {q : Nat} {x : UInt64} {kd : Int32} {wt : Nat} {ws : UInt64} {wc : Int32} {lk : Nat} (f_q : h q = some (false, 8, [.int kd, .ref wt, .double ws, .int wc, .ref lk])) (v0_6 : vf_n64 (FP.dadd ws x)) : sh_M md_Sync_addWaited [.ref q, .double x] (n, h) (.inl (none, (n, (sh_up h q (false, 8, [.int kd, .ref wt, .double (FP.dadd ws x), .int (wc + 1), .ref lk]))))) := by
  refine sh_aload_n dc_Sync_addWaited_0 rfl rfl ?_
  refine sh_aload_n dc_Sync_addWaited_1 rfl rfl ?_
  refine sh_get (k := 2) dc_Sync_addWaited_2 f_q rfl (by decide) fl_Sync_49 rfl ?_
  refine sh_dload_n dc_Sync_addWaited_5 rfl rfl ?_
  refine sh_dadd dc_Sync_addWaited_6 v0_6 ?_
  refine sh_put (k := 2) dc_Sync_addWaited_7 f_q rfl (by decide) fl_Sync_49 rfl pd_D rfl rfl ?_
  show sh_V _ _ (n, (sh_up h q (false, 8, [.int kd, .ref wt, .double (FP.dadd ws x), .int wc, .ref lk]))) _ _ _
  have f_q_1 : (sh_up h q (false, 8, [.int kd, .ref wt, .double (FP.dadd ws x), .int wc, .ref lk])) q = some (false, 8, [.int kd, .ref wt, .double (FP.dadd ws x), .int wc, .ref lk]) := (sh_up_eq _ _ _)
  refine sh_aload_n dc_Sync_addWaited_10 rfl rfl ?_
  refine sh_dup dc_Sync_addWaited_11 rfl ?_
  refine sh_get (k := 3) dc_Sync_addWaited_12 f_q_1 rfl (by decide) fl_Sync_52 rfl ?_
  refine sh_iconst (v := 1) dc_Sync_addWaited_15 (by decide) ?_
  refine sh_iadd dc_Sync_addWaited_16 ?_
  refine sh_put (k := 3) dc_Sync_addWaited_17 f_q_1 rfl (by decide) fl_Sync_52 rfl pd_I rfl rfl ?_
  refine sh_Vh (sh_up_up _ _ _ _) ?_
  show sh_V _ _ (n, (sh_up h q (false, 8, [.int kd, .ref wt, .double (FP.dadd ws x), .int (wc + 1), .ref lk]))) _ _ _
  have f_q_2 : (sh_up h q (false, 8, [.int kd, .ref wt, .double (FP.dadd ws x), .int (wc + 1), .ref lk])) q = some (false, 8, [.int kd, .ref wt, .double (FP.dadd ws x), .int (wc + 1), .ref lk]) := (sh_up_eq _ _ _)
  exact sh_return dc_Sync_addWaited_20 rfl (by decide) (by decide)
theorem pt_Sync_amount_Condition_1 {n : Nat} {h : sh_Hp} {q : Nat} {kd : Int32} {wt : Nat} {ws : UInt64} {wc : Int32} {lk : Nat} (f_q : h q = some (false, 8, [.int kd, .ref wt, .double ws, .int wc, .ref lk])) : sh_M md_Sync_amount [.ref q] (n, h) (.inl (some (.int 0), (n, h))) := by
  refine sh_iconst (v := 0) dc_Sync_amount_0 (by decide) ?_
  exact sh_ireturn dc_Sync_amount_1 rfl rfl (by decide) (by decide)
theorem pt_Sync_holdOf_Condition_1 {n : Nat} {h : sh_Hp} {q : Nat} {u : Nat} {kd : Int32} {wt : Nat} {ws : UInt64} {wc : Int32} {lk : Nat} (f_q : h q = some (false, 8, [.int kd, .ref wt, .double ws, .int wc, .ref lk])) : sh_M md_Sync_holdOf [.ref q, .ref u] (n, h) (.inl (some (.int 0), (n, h))) := by
  refine sh_iconst (v := 0) dc_Sync_holdOf_0 (by decide) ?_
  exact sh_ireturn dc_Sync_holdOf_1 rfl rfl (by decide) (by decide)
theorem pt_Sync_enqueue_Condition_1 {n : Nat} {h : sh_Hp} {q : Nat} {u : Nat} {m : Int32} {a : UInt64} {kd : Int32} {wt : Nat} {ws : UInt64} {wc : Int32} {lk : Nat} {rw : Nat} {cn : Int32} {rl : List Value} {t : Int32} {pr : UInt64} {fl : Int32} {oc : Int32} {pl : Option Nat} {mo : Int32} {he : Int32} {en : UInt64} {si : UInt64} {dd : Int32} {od : Int32} {tb : Int32} (f_q : h q = some (false, 8, [.int kd, .ref wt, .double ws, .int wc, .ref lk])) (f_wt : h wt = some (false, 2, [.ref rw, .int cn])) (f_rw : h rw = some (true, 4, rl)) (f_u : h u = some (false, 1, [.int t, .double pr, .int fl, .int oc, va_rf pl, .int mo, .int he, .double en, .double si, .int dd, .int od, .int tb])) (n_q_u : q ≠ u) (n_rw_u : rw ≠ u) (n_wt_u : wt ≠ u) (c0_5 : (Int32.ofNat rl.length) ≤ cn) : sh_M md_Sync_enqueue [.ref q, .ref u, .int m, .double a] (n, h) (.inl (none, (n, (sh_up h u (false, 1, [.int t, .double pr, .int fl, .int 0, .ref q, .int m, .int he, .double en, .double a, .int dd, .int od, .int tb]))))) := by
  refine sh_aload_n dc_Sync_enqueue_0 rfl rfl ?_
  refine sh_get (k := 1) dc_Sync_enqueue_1 f_q rfl (by decide) fl_Sync_18 rfl ?_
  refine sh_aload_n dc_Sync_enqueue_4 rfl rfl ?_
  refine sh_callR (sh_virt (As := [.ref u]) dc_Sync_enqueue_5 lm_Waiters_add ln_Sync_22 wd_615 wd_16 rfl rfl (Nat.le_of_ble_eq_true rfl) f_wt rfl) (pt_Waiters_add_1 (pl := pl) f_wt f_rw f_u c0_5) ⟨(Nat.le_of_ble_eq_true rfl), (Nat.le_of_ble_eq_true rfl), (Nat.le_of_ble_eq_true rfl), (Nat.le_of_ble_eq_true rfl)⟩ ?_
  show sh_V _ (_, _, []) (n, h) _ _ _
  refine sh_aload_n dc_Sync_enqueue_8 rfl rfl ?_
  refine sh_aload_n dc_Sync_enqueue_9 rfl rfl ?_
  refine sh_put (k := 4) dc_Sync_enqueue_10 f_u rfl (by decide) fl_Sync_26 rfl pd_LSync rfl rfl ?_
  show sh_V _ _ (n, (sh_up h u (false, 1, [.int t, .double pr, .int fl, .int oc, .ref q, .int mo, .int he, .double en, .double si, .int dd, .int od, .int tb]))) _ _ _
  have f_q_1 : (sh_up h u (false, 1, [.int t, .double pr, .int fl, .int oc, .ref q, .int mo, .int he, .double en, .double si, .int dd, .int od, .int tb])) q = some (false, 8, [.int kd, .ref wt, .double ws, .int wc, .ref lk]) := ((sh_up_ne n_q_u).trans f_q)
  have f_wt_1 : (sh_up h u (false, 1, [.int t, .double pr, .int fl, .int oc, .ref q, .int mo, .int he, .double en, .double si, .int dd, .int od, .int tb])) wt = some (false, 2, [.ref rw, .int cn]) := ((sh_up_ne n_wt_u).trans f_wt)
  have f_rw_1 : (sh_up h u (false, 1, [.int t, .double pr, .int fl, .int oc, .ref q, .int mo, .int he, .double en, .double si, .int dd, .int od, .int tb])) rw = some (true, 4, rl) := ((sh_up_ne n_rw_u).trans f_rw)
  have f_u_1 : (sh_up h u (false, 1, [.int t, .double pr, .int fl, .int oc, .ref q, .int mo, .int he, .double en, .double si, .int dd, .int od, .int tb])) u = some (false, 1, [.int t, .double pr, .int fl, .int oc, .ref q, .int mo, .int he, .double en, .double si, .int dd, .int od, .int tb]) := (sh_up_eq _ _ _)
  refine sh_aload_n dc_Sync_enqueue_13 rfl rfl ?_
  refine sh_iload_n dc_Sync_enqueue_14 rfl rfl ?_
  refine sh_put (k := 5) dc_Sync_enqueue_15 f_u_1 rfl (by decide) fl_Sync_32 rfl pd_I rfl rfl ?_
  refine sh_Vh (sh_up_up _ _ _ _) ?_
  show sh_V _ _ (n, (sh_up h u (false, 1, [.int t, .double pr, .int fl, .int oc, .ref q, .int m, .int he, .double en, .double si, .int dd, .int od, .int tb]))) _ _ _
  have f_q_2 : (sh_up h u (false, 1, [.int t, .double pr, .int fl, .int oc, .ref q, .int m, .int he, .double en, .double si, .int dd, .int od, .int tb])) q = some (false, 8, [.int kd, .ref wt, .double ws, .int wc, .ref lk]) := ((sh_up_ne n_q_u).trans f_q)
  have f_wt_2 : (sh_up h u (false, 1, [.int t, .double pr, .int fl, .int oc, .ref q, .int m, .int he, .double en, .double si, .int dd, .int od, .int tb])) wt = some (false, 2, [.ref rw, .int cn]) := ((sh_up_ne n_wt_u).trans f_wt)
  have f_rw_2 : (sh_up h u (false, 1, [.int t, .double pr, .int fl, .int oc, .ref q, .int m, .int he, .double en, .double si, .int dd, .int od, .int tb])) rw = some (true, 4, rl) := ((sh_up_ne n_rw_u).trans f_rw)
  have f_u_2 : (sh_up h u (false, 1, [.int t, .double pr, .int fl, .int oc, .ref q, .int m, .int he, .double en, .double si, .int dd, .int od, .int tb])) u = some (false, 1, [.int t, .double pr, .int fl, .int oc, .ref q, .int m, .int he, .double en, .double si, .int dd, .int od, .int tb]) := (sh_up_eq _ _ _)
  refine sh_aload_n dc_Sync_enqueue_18 rfl rfl ?_
  refine sh_dload_n dc_Sync_enqueue_19 rfl rfl ?_
  refine sh_put (k := 8) dc_Sync_enqueue_20 f_u_2 rfl (by decide) fl_Sync_35 rfl pd_D rfl rfl ?_
  refine sh_Vh (sh_up_up _ _ _ _) ?_
  show sh_V _ _ (n, (sh_up h u (false, 1, [.int t, .double pr, .int fl, .int oc, .ref q, .int m, .int he, .double en, .double a, .int dd, .int od, .int tb]))) _ _ _
  have f_q_3 : (sh_up h u (false, 1, [.int t, .double pr, .int fl, .int oc, .ref q, .int m, .int he, .double en, .double a, .int dd, .int od, .int tb])) q = some (false, 8, [.int kd, .ref wt, .double ws, .int wc, .ref lk]) := ((sh_up_ne n_q_u).trans f_q)
  have f_wt_3 : (sh_up h u (false, 1, [.int t, .double pr, .int fl, .int oc, .ref q, .int m, .int he, .double en, .double a, .int dd, .int od, .int tb])) wt = some (false, 2, [.ref rw, .int cn]) := ((sh_up_ne n_wt_u).trans f_wt)
  have f_rw_3 : (sh_up h u (false, 1, [.int t, .double pr, .int fl, .int oc, .ref q, .int m, .int he, .double en, .double a, .int dd, .int od, .int tb])) rw = some (true, 4, rl) := ((sh_up_ne n_rw_u).trans f_rw)
  have f_u_3 : (sh_up h u (false, 1, [.int t, .double pr, .int fl, .int oc, .ref q, .int m, .int he, .double en, .double a, .int dd, .int od, .int tb])) u = some (false, 1, [.int t, .double pr, .int fl, .int oc, .ref q, .int m, .int he, .double en, .double a, .int dd, .int od, .int tb]) := (sh_up_eq _ _ _)
  refine sh_aload_n dc_Sync_enqueue_23 rfl rfl ?_
  refine sh_iconst (v := 0) dc_Sync_enqueue_24 (by decide) ?_
  refine sh_put (k := 3) dc_Sync_enqueue_25 f_u_3 rfl (by decide) fl_Sync_39 rfl pd_I rfl rfl ?_
  refine sh_Vh (sh_up_up _ _ _ _) ?_
  show sh_V _ _ (n, (sh_up h u (false, 1, [.int t, .double pr, .int fl, .int 0, .ref q, .int m, .int he, .double en, .double a, .int dd, .int od, .int tb]))) _ _ _
  have f_q_4 : (sh_up h u (false, 1, [.int t, .double pr, .int fl, .int 0, .ref q, .int m, .int he, .double en, .double a, .int dd, .int od, .int tb])) q = some (false, 8, [.int kd, .ref wt, .double ws, .int wc, .ref lk]) := ((sh_up_ne n_q_u).trans f_q)
  have f_wt_4 : (sh_up h u (false, 1, [.int t, .double pr, .int fl, .int 0, .ref q, .int m, .int he, .double en, .double a, .int dd, .int od, .int tb])) wt = some (false, 2, [.ref rw, .int cn]) := ((sh_up_ne n_wt_u).trans f_wt)
  have f_rw_4 : (sh_up h u (false, 1, [.int t, .double pr, .int fl, .int 0, .ref q, .int m, .int he, .double en, .double a, .int dd, .int od, .int tb])) rw = some (true, 4, rl) := ((sh_up_ne n_rw_u).trans f_rw)
  have f_u_4 : (sh_up h u (false, 1, [.int t, .double pr, .int fl, .int 0, .ref q, .int m, .int he, .double en, .double a, .int dd, .int od, .int tb])) u = some (false, 1, [.int t, .double pr, .int fl, .int 0, .ref q, .int m, .int he, .double en, .double a, .int dd, .int od, .int tb]) := (sh_up_eq _ _ _)
  exact sh_return dc_Sync_enqueue_28 rfl (by decide) (by decide)
theorem pt_Sync_enqueue_Condition_2 {n : Nat} {h : sh_Hp} {q : Nat} {u : Nat} {m : Int32} {a : UInt64} {kd : Int32} {wt : Nat} {ws : UInt64} {wc : Int32} {lk : Nat} {rw : Nat} {cn : Int32} {rl : List Value} {t : Int32} {pr : UInt64} {fl : Int32} {oc : Int32} {pl : Option Nat} {mo : Int32} {he : Int32} {en : UInt64} {si : UInt64} {dd : Int32} {od : Int32} {tb : Int32} {w21_5 : Value} (f_q : h q = some (false, 8, [.int kd, .ref wt, .double ws, .int wc, .ref lk])) (f_wt : h wt = some (false, 2, [.ref rw, .int cn])) (f_rw : h rw = some (true, 4, rl)) (f_u : h u = some (false, 1, [.int t, .double pr, .int fl, .int oc, va_rf pl, .int mo, .int he, .double en, .double si, .int dd, .int od, .int tb])) (n_q_rw : q ≠ rw) (n_q_u : q ≠ u) (n_q_wt : q ≠ wt) (n_rw_u : rw ≠ u) (n_rw_wt : rw ≠ wt) (n_u_rw : u ≠ rw) (n_u_wt : u ≠ wt) (n_wt_rw : wt ≠ rw) (n_wt_u : wt ≠ u) (c0_5 : ¬ (Int32.ofNat rl.length) ≤ cn) (v1_5 : ¬ cn < 0) (v2_5 : rl[cn.toNatClampNeg]? = some w21_5) : sh_M md_Sync_enqueue [.ref q, .ref u, .int m, .double a] (n, h) (.inl (none, (n, (sh_up (sh_up (sh_up h rw (true, 4, (rl.set cn.toNatClampNeg (.ref u)))) wt (false, 2, [.ref rw, .int (cn + 1)])) u (false, 1, [.int t, .double pr, .int fl, .int 0, .ref q, .int m, .int he, .double en, .double a, .int dd, .int od, .int tb]))))) := by
  refine sh_aload_n dc_Sync_enqueue_0 rfl rfl ?_
  refine sh_get (k := 1) dc_Sync_enqueue_1 f_q rfl (by decide) fl_Sync_18 rfl ?_
  refine sh_aload_n dc_Sync_enqueue_4 rfl rfl ?_
  refine sh_callR (sh_virt (As := [.ref u]) dc_Sync_enqueue_5 lm_Waiters_add ln_Sync_22 wd_615 wd_16 rfl rfl (Nat.le_of_ble_eq_true rfl) f_wt rfl) (pt_Waiters_add_2 (pl := pl) f_wt f_rw f_u n_wt_rw n_rw_wt n_u_wt n_u_rw c0_5 v1_5 v2_5) ⟨(Nat.le_of_ble_eq_true rfl), (Nat.le_of_ble_eq_true rfl), (Nat.le_of_ble_eq_true rfl), (Nat.le_of_ble_eq_true rfl)⟩ ?_
  show sh_V _ (_, _, []) (n, (sh_up (sh_up h rw (true, 4, (rl.set cn.toNatClampNeg (.ref u)))) wt (false, 2, [.ref rw, .int (cn + 1)]))) _ _ _
  have f_q_1 : (sh_up (sh_up h rw (true, 4, (rl.set cn.toNatClampNeg (.ref u)))) wt (false, 2, [.ref rw, .int (cn + 1)])) q = some (false, 8, [.int kd, .ref wt, .double ws, .int wc, .ref lk]) := ((sh_up_ne n_q_wt).trans ((sh_up_ne n_q_rw).trans f_q))
  have f_wt_1 : (sh_up (sh_up h rw (true, 4, (rl.set cn.toNatClampNeg (.ref u)))) wt (false, 2, [.ref rw, .int (cn + 1)])) wt = some (false, 2, [.ref rw, .int (cn + 1)]) := (sh_up_eq _ _ _)
  have f_rw_1 : (sh_up (sh_up h rw (true, 4, (rl.set cn.toNatClampNeg (.ref u)))) wt (false, 2, [.ref rw, .int (cn + 1)])) rw = some (true, 4, (rl.set cn.toNatClampNeg (.ref u))) := ((sh_up_ne n_rw_wt).trans (sh_up_eq _ _ _))
  have f_u_1 : (sh_up (sh_up h rw (true, 4, (rl.set cn.toNatClampNeg (.ref u)))) wt (false, 2, [.ref rw, .int (cn + 1)])) u = some (false, 1, [.int t, .double pr, .int fl, .int oc, va_rf pl, .int mo, .int he, .double en, .double si, .int dd, .int od, .int tb]) := ((sh_up_ne n_u_wt).trans ((sh_up_ne n_u_rw).trans f_u))
  refine sh_aload_n dc_Sync_enqueue_8 rfl rfl ?_
  refine sh_aload_n dc_Sync_enqueue_9 rfl rfl ?_
  refine sh_put (k := 4) dc_Sync_enqueue_10 f_u_1 rfl (by decide) fl_Sync_26 rfl pd_LSync rfl rfl ?_
  show sh_V _ _ (n, (sh_up (sh_up (sh_up h rw (true, 4, (rl.set cn.toNatClampNeg (.ref u)))) wt (false, 2, [.ref rw, .int (cn + 1)])) u (false, 1, [.int t, .double pr, .int fl, .int oc, .ref q, .int mo, .int he, .double en, .double si, .int dd, .int od, .int tb]))) _ _ _
  have f_q_2 : (sh_up (sh_up (sh_up h rw (true, 4, (rl.set cn.toNatClampNeg (.ref u)))) wt (false, 2, [.ref rw, .int (cn + 1)])) u (false, 1, [.int t, .double pr, .int fl, .int oc, .ref q, .int mo, .int he, .double en, .double si, .int dd, .int od, .int tb])) q = some (false, 8, [.int kd, .ref wt, .double ws, .int wc, .ref lk]) := ((sh_up_ne n_q_u).trans ((sh_up_ne n_q_wt).trans ((sh_up_ne n_q_rw).trans f_q)))
  have f_wt_2 : (sh_up (sh_up (sh_up h rw (true, 4, (rl.set cn.toNatClampNeg (.ref u)))) wt (false, 2, [.ref rw, .int (cn + 1)])) u (false, 1, [.int t, .double pr, .int fl, .int oc, .ref q, .int mo, .int he, .double en, .double si, .int dd, .int od, .int tb])) wt = some (false, 2, [.ref rw, .int (cn + 1)]) := ((sh_up_ne n_wt_u).trans (sh_up_eq _ _ _))
  have f_rw_2 : (sh_up (sh_up (sh_up h rw (true, 4, (rl.set cn.toNatClampNeg (.ref u)))) wt (false, 2, [.ref rw, .int (cn + 1)])) u (false, 1, [.int t, .double pr, .int fl, .int oc, .ref q, .int mo, .int he, .double en, .double si, .int dd, .int od, .int tb])) rw = some (true, 4, (rl.set cn.toNatClampNeg (.ref u))) := ((sh_up_ne n_rw_u).trans ((sh_up_ne n_rw_wt).trans (sh_up_eq _ _ _)))
  have f_u_2 : (sh_up (sh_up (sh_up h rw (true, 4, (rl.set cn.toNatClampNeg (.ref u)))) wt (false, 2, [.ref rw, .int (cn + 1)])) u (false, 1, [.int t, .double pr, .int fl, .int oc, .ref q, .int mo, .int he, .double en, .double si, .int dd, .int od, .int tb])) u = some (false, 1, [.int t, .double pr, .int fl, .int oc, .ref q, .int mo, .int he, .double en, .double si, .int dd, .int od, .int tb]) := (sh_up_eq _ _ _)
  refine sh_aload_n dc_Sync_enqueue_13 rfl rfl ?_
  refine sh_iload_n dc_Sync_enqueue_14 rfl rfl ?_
  refine sh_put (k := 5) dc_Sync_enqueue_15 f_u_2 rfl (by decide) fl_Sync_32 rfl pd_I rfl rfl ?_
  refine sh_Vh (sh_up_up _ _ _ _) ?_
  show sh_V _ _ (n, (sh_up (sh_up (sh_up h rw (true, 4, (rl.set cn.toNatClampNeg (.ref u)))) wt (false, 2, [.ref rw, .int (cn + 1)])) u (false, 1, [.int t, .double pr, .int fl, .int oc, .ref q, .int m, .int he, .double en, .double si, .int dd, .int od, .int tb]))) _ _ _
  have f_q_3 : (sh_up (sh_up (sh_up h rw (true, 4, (rl.set cn.toNatClampNeg (.ref u)))) wt (false, 2, [.ref rw, .int (cn + 1)])) u (false, 1, [.int t, .double pr, .int fl, .int oc, .ref q, .int m, .int he, .double en, .double si, .int dd, .int od, .int tb])) q = some (false, 8, [.int kd, .ref wt, .double ws, .int wc, .ref lk]) := ((sh_up_ne n_q_u).trans ((sh_up_ne n_q_wt).trans ((sh_up_ne n_q_rw).trans f_q)))
  have f_wt_3 : (sh_up (sh_up (sh_up h rw (true, 4, (rl.set cn.toNatClampNeg (.ref u)))) wt (false, 2, [.ref rw, .int (cn + 1)])) u (false, 1, [.int t, .double pr, .int fl, .int oc, .ref q, .int m, .int he, .double en, .double si, .int dd, .int od, .int tb])) wt = some (false, 2, [.ref rw, .int (cn + 1)]) := ((sh_up_ne n_wt_u).trans (sh_up_eq _ _ _))
  have f_rw_3 : (sh_up (sh_up (sh_up h rw (true, 4, (rl.set cn.toNatClampNeg (.ref u)))) wt (false, 2, [.ref rw, .int (cn + 1)])) u (false, 1, [.int t, .double pr, .int fl, .int oc, .ref q, .int m, .int he, .double en, .double si, .int dd, .int od, .int tb])) rw = some (true, 4, (rl.set cn.toNatClampNeg (.ref u))) := ((sh_up_ne n_rw_u).trans ((sh_up_ne n_rw_wt).trans (sh_up_eq _ _ _)))
  have f_u_3 : (sh_up (sh_up (sh_up h rw (true, 4, (rl.set cn.toNatClampNeg (.ref u)))) wt (false, 2, [.ref rw, .int (cn + 1)])) u (false, 1, [.int t, .double pr, .int fl, .int oc, .ref q, .int m, .int he, .double en, .double si, .int dd, .int od, .int tb])) u = some (false, 1, [.int t, .double pr, .int fl, .int oc, .ref q, .int m, .int he, .double en, .double si, .int dd, .int od, .int tb]) := (sh_up_eq _ _ _)
  refine sh_aload_n dc_Sync_enqueue_18 rfl rfl ?_
  refine sh_dload_n dc_Sync_enqueue_19 rfl rfl ?_
  refine sh_put (k := 8) dc_Sync_enqueue_20 f_u_3 rfl (by decide) fl_Sync_35 rfl pd_D rfl rfl ?_
  refine sh_Vh (sh_up_up _ _ _ _) ?_
  show sh_V _ _ (n, (sh_up (sh_up (sh_up h rw (true, 4, (rl.set cn.toNatClampNeg (.ref u)))) wt (false, 2, [.ref rw, .int (cn + 1)])) u (false, 1, [.int t, .double pr, .int fl, .int oc, .ref q, .int m, .int he, .double en, .double a, .int dd, .int od, .int tb]))) _ _ _
  have f_q_4 : (sh_up (sh_up (sh_up h rw (true, 4, (rl.set cn.toNatClampNeg (.ref u)))) wt (false, 2, [.ref rw, .int (cn + 1)])) u (false, 1, [.int t, .double pr, .int fl, .int oc, .ref q, .int m, .int he, .double en, .double a, .int dd, .int od, .int tb])) q = some (false, 8, [.int kd, .ref wt, .double ws, .int wc, .ref lk]) := ((sh_up_ne n_q_u).trans ((sh_up_ne n_q_wt).trans ((sh_up_ne n_q_rw).trans f_q)))
  have f_wt_4 : (sh_up (sh_up (sh_up h rw (true, 4, (rl.set cn.toNatClampNeg (.ref u)))) wt (false, 2, [.ref rw, .int (cn + 1)])) u (false, 1, [.int t, .double pr, .int fl, .int oc, .ref q, .int m, .int he, .double en, .double a, .int dd, .int od, .int tb])) wt = some (false, 2, [.ref rw, .int (cn + 1)]) := ((sh_up_ne n_wt_u).trans (sh_up_eq _ _ _))
  have f_rw_4 : (sh_up (sh_up (sh_up h rw (true, 4, (rl.set cn.toNatClampNeg (.ref u)))) wt (false, 2, [.ref rw, .int (cn + 1)])) u (false, 1, [.int t, .double pr, .int fl, .int oc, .ref q, .int m, .int he, .double en, .double a, .int dd, .int od, .int tb])) rw = some (true, 4, (rl.set cn.toNatClampNeg (.ref u))) := ((sh_up_ne n_rw_u).trans ((sh_up_ne n_rw_wt).trans (sh_up_eq _ _ _)))
  have f_u_4 : (sh_up (sh_up (sh_up h rw (true, 4, (rl.set cn.toNatClampNeg (.ref u)))) wt (false, 2, [.ref rw, .int (cn + 1)])) u (false, 1, [.int t, .double pr, .int fl, .int oc, .ref q, .int m, .int he, .double en, .double a, .int dd, .int od, .int tb])) u = some (false, 1, [.int t, .double pr, .int fl, .int oc, .ref q, .int m, .int he, .double en, .double a, .int dd, .int od, .int tb]) := (sh_up_eq _ _ _)
  refine sh_aload_n dc_Sync_enqueue_23 rfl rfl ?_
  refine sh_iconst (v := 0) dc_Sync_enqueue_24 (by decide) ?_
  refine sh_put (k := 3) dc_Sync_enqueue_25 f_u_4 rfl (by decide) fl_Sync_39 rfl pd_I rfl rfl ?_
  refine sh_Vh (sh_up_up _ _ _ _) ?_
  show sh_V _ _ (n, (sh_up (sh_up (sh_up h rw (true, 4, (rl.set cn.toNatClampNeg (.ref u)))) wt (false, 2, [.ref rw, .int (cn + 1)])) u (false, 1, [.int t, .double pr, .int fl, .int 0, .ref q, .int m, .int he, .double en, .double a, .int dd, .int od, .int tb]))) _ _ _
  have f_q_5 : (sh_up (sh_up (sh_up h rw (true, 4, (rl.set cn.toNatClampNeg (.ref u)))) wt (false, 2, [.ref rw, .int (cn + 1)])) u (false, 1, [.int t, .double pr, .int fl, .int 0, .ref q, .int m, .int he, .double en, .double a, .int dd, .int od, .int tb])) q = some (false, 8, [.int kd, .ref wt, .double ws, .int wc, .ref lk]) := ((sh_up_ne n_q_u).trans ((sh_up_ne n_q_wt).trans ((sh_up_ne n_q_rw).trans f_q)))
  have f_wt_5 : (sh_up (sh_up (sh_up h rw (true, 4, (rl.set cn.toNatClampNeg (.ref u)))) wt (false, 2, [.ref rw, .int (cn + 1)])) u (false, 1, [.int t, .double pr, .int fl, .int 0, .ref q, .int m, .int he, .double en, .double a, .int dd, .int od, .int tb])) wt = some (false, 2, [.ref rw, .int (cn + 1)]) := ((sh_up_ne n_wt_u).trans (sh_up_eq _ _ _))
  have f_rw_5 : (sh_up (sh_up (sh_up h rw (true, 4, (rl.set cn.toNatClampNeg (.ref u)))) wt (false, 2, [.ref rw, .int (cn + 1)])) u (false, 1, [.int t, .double pr, .int fl, .int 0, .ref q, .int m, .int he, .double en, .double a, .int dd, .int od, .int tb])) rw = some (true, 4, (rl.set cn.toNatClampNeg (.ref u))) := ((sh_up_ne n_rw_u).trans ((sh_up_ne n_rw_wt).trans (sh_up_eq _ _ _)))
  have f_u_5 : (sh_up (sh_up (sh_up h rw (true, 4, (rl.set cn.toNatClampNeg (.ref u)))) wt (false, 2, [.ref rw, .int (cn + 1)])) u (false, 1, [.int t, .double pr, .int fl, .int 0, .ref q, .int m, .int he, .double en, .double a, .int dd, .int od, .int tb])) u = some (false, 1, [.int t, .double pr, .int fl, .int 0, .ref q, .int m, .int he, .double en, .double a, .int dd, .int od, .int tb]) := (sh_up_eq _ _ _)
  exact sh_return dc_Sync_enqueue_28 rfl (by decide) (by decide)
theorem pt_Hall_gateOf_Condition_1 {n : Nat} {h : sh_Hp} {q : Nat} {kd : Int32} {wt : Nat} {ws : UInt64} {wc : Int32} {lk : Nat} (f_q : h q = some (false, 8, [.int kd, .ref wt, .double ws, .int wc, .ref lk])) : sh_M md_Hall_gateOf [.ref q] (n, h) (.inr (4, h)) := by
  refine sh_aload_n dc_Hall_gateOf_0 rfl rfl ?_
  refine sh_instNo dc_Hall_gateOf_1 wd_473 f_q rfl wn_78 ?_
  refine sh_if_eq (tgt := 14) dc_Hall_gateOf_4 (by decide) (fun _ => ?_) (fun z => absurd (by decide) z)
  exact sh_thr (lx := 2) (tx := "a condition is not taken or given back") dc_Hall_gateOf_14 dc_Hall_gateOf_17 (Or.inl ⟨dc_Hall_gateOf_18, rfl⟩) dc_Hall_gateOf_20 dc_Hall_gateOf_23 lx_Hall_243_247 (by decide +kernel) rfl (by decide) (by decide) (by decide) (by decide)
theorem pt_Gate_next_Lock_1 {n : Nat} {h : sh_Hp} {q : Nat} {kd : Int32} {wt : Nat} {ws : UInt64} {wc : Int32} {ow : Option Nat} {dp : Int32} {rw : Nat} {cn : Int32} {rl : List Value} (f_q : h q = some (false, 4, [.int kd, .ref wt, .double ws, .int wc, va_rf ow, .int dp])) (f_wt : h wt = some (false, 2, [.ref rw, .int cn])) (f_rw : h rw = some (true, 4, rl)) (c0_5 : cn ≤ 0) : sh_M md_Gate_next [.ref q] (n, h) (.inl (some (.null), (n, h))) := by
  refine sh_aload_n dc_Gate_next_0 rfl rfl ?_
  refine sh_get (k := 1) dc_Gate_next_1 f_q rfl (by decide) fl_Gate_7 rfl ?_
  refine sh_iconst (v := 0) dc_Gate_next_4 (by decide) ?_
  refine sh_callR (sh_virt (As := [.int 0]) dc_Gate_next_5 lm_Waiters_at ln_Gate_13 wd_690 wd_22 rfl rfl (Nat.le_of_ble_eq_true rfl) f_wt rfl) (pt_Waiters_at_2 f_wt f_rw (by decide) c0_5) ⟨(Nat.le_of_ble_eq_true rfl), (Nat.le_of_ble_eq_true rfl), (Nat.le_of_ble_eq_true rfl), (Nat.le_of_ble_eq_true rfl)⟩ ?_
  show sh_V _ (_, _, [.null]) (n, h) _ _ _
  exact sh_areturn (v := none) dc_Gate_next_8 rfl (by decide) (by decide)
theorem pt_Gate_next_Lock_2 {n : Nat} {h : sh_Hp} {q : Nat} {kd : Int32} {wt : Nat} {ws : UInt64} {wc : Int32} {ow : Option Nat} {dp : Int32} {rw : Nat} {cn : Int32} {rl : List Value} {x17_0_5 : Nat} (f_q : h q = some (false, 4, [.int kd, .ref wt, .double ws, .int wc, va_rf ow, .int dp])) (f_wt : h wt = some (false, 2, [.ref rw, .int cn])) (f_rw : h rw = some (true, 4, rl)) (c0_5 : ¬ cn ≤ 0) (v1_5 : rl[(0 : Int32).toNatClampNeg]? = some (.ref x17_0_5)) : sh_M md_Gate_next [.ref q] (n, h) (.inl (some (.ref x17_0_5), (n, h))) := by
  refine sh_aload_n dc_Gate_next_0 rfl rfl ?_
  refine sh_get (k := 1) dc_Gate_next_1 f_q rfl (by decide) fl_Gate_7 rfl ?_
  refine sh_iconst (v := 0) dc_Gate_next_4 (by decide) ?_
  refine sh_callR (sh_virt (As := [.int 0]) dc_Gate_next_5 lm_Waiters_at ln_Gate_13 wd_690 wd_22 rfl rfl (Nat.le_of_ble_eq_true rfl) f_wt rfl) (pt_Waiters_at_3 f_wt f_rw (by decide) c0_5 v1_5) ⟨(Nat.le_of_ble_eq_true rfl), (Nat.le_of_ble_eq_true rfl), (Nat.le_of_ble_eq_true rfl), (Nat.le_of_ble_eq_true rfl)⟩ ?_
  show sh_V _ (_, _, [.ref x17_0_5]) (n, h) _ _ _
  exact sh_areturn (v := (some x17_0_5)) dc_Gate_next_8 rfl (by decide) (by decide)
theorem pt_Gate_next_Latch_1 {n : Nat} {h : sh_Hp} {q : Nat} {kd : Int32} {wt : Nat} {ws : UInt64} {wc : Int32} {ct : Int32} {rw : Nat} {cn : Int32} {rl : List Value} (f_q : h q = some (false, 6, [.int kd, .ref wt, .double ws, .int wc, .int ct])) (f_wt : h wt = some (false, 2, [.ref rw, .int cn])) (f_rw : h rw = some (true, 4, rl)) (c0_5 : cn ≤ 0) : sh_M md_Gate_next [.ref q] (n, h) (.inl (some (.null), (n, h))) := by
  refine sh_aload_n dc_Gate_next_0 rfl rfl ?_
  refine sh_get (k := 1) dc_Gate_next_1 f_q rfl (by decide) fl_Gate_7 rfl ?_
  refine sh_iconst (v := 0) dc_Gate_next_4 (by decide) ?_
  refine sh_callR (sh_virt (As := [.int 0]) dc_Gate_next_5 lm_Waiters_at ln_Gate_13 wd_690 wd_22 rfl rfl (Nat.le_of_ble_eq_true rfl) f_wt rfl) (pt_Waiters_at_2 f_wt f_rw (by decide) c0_5) ⟨(Nat.le_of_ble_eq_true rfl), (Nat.le_of_ble_eq_true rfl), (Nat.le_of_ble_eq_true rfl), (Nat.le_of_ble_eq_true rfl)⟩ ?_
  show sh_V _ (_, _, [.null]) (n, h) _ _ _
  exact sh_areturn (v := none) dc_Gate_next_8 rfl (by decide) (by decide)
theorem pt_Gate_next_Latch_2 {n : Nat} {h : sh_Hp} {q : Nat} {kd : Int32} {wt : Nat} {ws : UInt64} {wc : Int32} {ct : Int32} {rw : Nat} {cn : Int32} {rl : List Value} {x17_0_5 : Nat} (f_q : h q = some (false, 6, [.int kd, .ref wt, .double ws, .int wc, .int ct])) (f_wt : h wt = some (false, 2, [.ref rw, .int cn])) (f_rw : h rw = some (true, 4, rl)) (c0_5 : ¬ cn ≤ 0) (v1_5 : rl[(0 : Int32).toNatClampNeg]? = some (.ref x17_0_5)) : sh_M md_Gate_next [.ref q] (n, h) (.inl (some (.ref x17_0_5), (n, h))) := by
  refine sh_aload_n dc_Gate_next_0 rfl rfl ?_
  refine sh_get (k := 1) dc_Gate_next_1 f_q rfl (by decide) fl_Gate_7 rfl ?_
  refine sh_iconst (v := 0) dc_Gate_next_4 (by decide) ?_
  refine sh_callR (sh_virt (As := [.int 0]) dc_Gate_next_5 lm_Waiters_at ln_Gate_13 wd_690 wd_22 rfl rfl (Nat.le_of_ble_eq_true rfl) f_wt rfl) (pt_Waiters_at_3 f_wt f_rw (by decide) c0_5 v1_5) ⟨(Nat.le_of_ble_eq_true rfl), (Nat.le_of_ble_eq_true rfl), (Nat.le_of_ble_eq_true rfl), (Nat.le_of_ble_eq_true rfl)⟩ ?_
  show sh_V _ (_, _, [.ref x17_0_5]) (n, h) _ _ _
  exact sh_areturn (v := (some x17_0_5)) dc_Gate_next_8 rfl (by decide) (by decide)
theorem pt_Hall_time_1 {n : Nat} {h : sh_Hp} {q : Nat} {wk : Nat} {sy : Nat} {ord : Nat} {sc : Int32} {nw : UInt64} (f_q : h q = some (false, 0, [.ref wk, .ref sy, .ref ord, .int sc, .double nw])) : sh_M md_Hall_time [.ref q] (n, h) (.inl (some (.double nw), (n, h))) := by
  refine sh_aload_n dc_Hall_time_0 rfl rfl ?_
  refine sh_get (k := 4) dc_Hall_time_1 f_q rfl (by decide) fl_Hall_35 rfl ?_
  exact sh_dreturn dc_Hall_time_4 rfl (by decide) (by decide)
