theorem sh_Vh {d : sh_Md} {f : sh_AF} {n : Nat} {h1 h2 : sh_Hp} {cs ss : Nat} {Z : sh_Zt} (e : h1 = h2) (k : sh_V d f (n, h2) cs ss Z) : sh_V d f (n, h1) cs ss Z := by rw [e]; exact k
theorem sh_nq (C : String) (r : Option Nat) : narrow (.object C) (va_rf r) = va_rf r := by cases r <;> rfl
theorem sh_fq (C : String) (r : Option Nat) : fits (.object C) (va_rf r) = true := by cases r <;> rfl
theorem pt_Worker_isBlocked_1 {n : Nat} {h : sh_Hp} {q : Nat} {t : Int32} {pr : UInt64} {fl : Int32} {oc : Int32} {mo : Int32} {he : Int32} {en : UInt64} {si : UInt64} {dd : Int32} {od : Int32} {tb : Int32} (f_q : h q = some (false, 1, [.int t, .double pr, .int fl, .int oc, .null, .int mo, .int he, .double en, .double si, .int dd, .int od, .int tb])) : sh_M md_Worker_isBlocked [.ref q] (n, h) (.inl (some (.int 0), (n, h))) := by
  refine sh_aload_n dc_Worker_isBlocked_0 rfl rfl ?_
  refine sh_get (k := 4) dc_Worker_isBlocked_1 f_q rfl (by decide) fl_Worker_18 rfl ?_
  refine sh_ifnullN (tgt := 11) dc_Worker_isBlocked_4 (by decide) ?_
  refine sh_iconst (v := 0) dc_Worker_isBlocked_11 (by decide) ?_
  exact sh_ireturn dc_Worker_isBlocked_12 rfl rfl (by decide) (by decide)
theorem pt_Worker_isBlocked_2 {n : Nat} {h : sh_Hp} {q : Nat} {t : Int32} {pr : UInt64} {fl : Int32} {oc : Int32} {plq : Nat} {mo : Int32} {he : Int32} {en : UInt64} {si : UInt64} {dd : Int32} {od : Int32} {tb : Int32} (f_q : h q = some (false, 1, [.int t, .double pr, .int fl, .int oc, .ref plq, .int mo, .int he, .double en, .double si, .int dd, .int od, .int tb])) : sh_M md_Worker_isBlocked [.ref q] (n, h) (.inl (some (.int 1), (n, h))) := by
  refine sh_aload_n dc_Worker_isBlocked_0 rfl rfl ?_
  refine sh_get (k := 4) dc_Worker_isBlocked_1 f_q rfl (by decide) fl_Worker_18 rfl ?_
  refine sh_ifnull dc_Worker_isBlocked_4 ?_
  refine sh_iconst (v := 1) dc_Worker_isBlocked_7 (by decide) ?_
  refine sh_goto_ (tgt := 12) dc_Worker_isBlocked_8 (by decide) ?_
  exact sh_ireturn dc_Worker_isBlocked_12 rfl rfl (by decide) (by decide)
theorem pt_Worker_dropFlag_1 {n : Nat} {h : sh_Hp} {q : Nat} {t : Int32} {pr : UInt64} {fl : Int32} {oc : Int32} {pl : Option Nat} {mo : Int32} {he : Int32} {en : UInt64} {si : UInt64} {dd : Int32} {od : Int32} {tb : Int32} (f_q : h q = some (false, 1, [.int t, .double pr, .int fl, .int oc, va_rf pl, .int mo, .int he, .double en, .double si, .int dd, .int od, .int tb])) (r11 : narrow .boolean (.int fl) = .int fl) : sh_M md_Worker_dropFlag [.ref q] (n, h) (.inl (some (.int fl), (n, (sh_up h q (false, 1, [.int t, .double pr, .int 0, .int oc, va_rf pl, .int mo, .int he, .double en, .double si, .int dd, .int od, .int tb]))))) := by
  refine sh_aload_n dc_Worker_dropFlag_0 rfl rfl ?_
  refine sh_get (k := 2) dc_Worker_dropFlag_1 f_q rfl (by decide) fl_Worker_22 rfl ?_
  refine sh_istore_n dc_Worker_dropFlag_4 rfl (by decide) ?_
  refine sh_aload_n dc_Worker_dropFlag_5 rfl rfl ?_
  refine sh_iconst (v := 0) dc_Worker_dropFlag_6 (by decide) ?_
  refine sh_put (k := 2) dc_Worker_dropFlag_7 f_q rfl (by decide) fl_Worker_22 rfl pd_Z rfl rfl ?_
  show sh_V _ _ (n, (sh_up h q (false, 1, [.int t, .double pr, .int 0, .int oc, va_rf pl, .int mo, .int he, .double en, .double si, .int dd, .int od, .int tb]))) _ _ _
  have f_q_1 : (sh_up h q (false, 1, [.int t, .double pr, .int 0, .int oc, va_rf pl, .int mo, .int he, .double en, .double si, .int dd, .int od, .int tb])) q = some (false, 1, [.int t, .double pr, .int 0, .int oc, va_rf pl, .int mo, .int he, .double en, .double si, .int dd, .int od, .int tb]) := sh_up_eq _ _ _
  refine sh_iload_n dc_Worker_dropFlag_10 rfl rfl ?_
  exact sh_ireturn dc_Worker_dropFlag_11 rfl r11 (by decide) (by decide)
theorem pt_Worker_finish_1 {n : Nat} {h : sh_Hp} {q : Nat} {x : Int32} {t : Int32} {pr : UInt64} {fl : Int32} {oc : Int32} {pl : Option Nat} {mo : Int32} {he : Int32} {en : UInt64} {si : UInt64} {dd : Int32} {od : Int32} {tb : Int32} (f_q : h q = some (false, 1, [.int t, .double pr, .int fl, .int oc, va_rf pl, .int mo, .int he, .double en, .double si, .int dd, .int od, .int tb])) : sh_M md_Worker_finish [.ref q, .int x] (n, h) (.inl (some (.int x), (n, (sh_up h q (false, 1, [.int t, .double pr, .int fl, .int x, va_rf pl, .int mo, .int he, .double en, .double si, .int dd, .int od, .int 0]))))) := by
  refine sh_aload_n dc_Worker_finish_0 rfl rfl ?_
  refine sh_iload_n dc_Worker_finish_1 rfl rfl ?_
  refine sh_put (k := 3) dc_Worker_finish_2 f_q rfl (by decide) fl_Worker_15 rfl pd_I rfl rfl ?_
  show sh_V _ _ (n, (sh_up h q (false, 1, [.int t, .double pr, .int fl, .int x, va_rf pl, .int mo, .int he, .double en, .double si, .int dd, .int od, .int tb]))) _ _ _
  have f_q_1 : (sh_up h q (false, 1, [.int t, .double pr, .int fl, .int x, va_rf pl, .int mo, .int he, .double en, .double si, .int dd, .int od, .int tb])) q = some (false, 1, [.int t, .double pr, .int fl, .int x, va_rf pl, .int mo, .int he, .double en, .double si, .int dd, .int od, .int tb]) := sh_up_eq _ _ _
  refine sh_aload_n dc_Worker_finish_5 rfl rfl ?_
  refine sh_iconst (v := 0) dc_Worker_finish_6 (by decide) ?_
  refine sh_put (k := 11) dc_Worker_finish_7 f_q_1 rfl (by decide) fl_Worker_26 rfl pd_Z rfl rfl ?_
  refine sh_Vh (sh_up_up _ _ _ _) ?_
  show sh_V _ _ (n, (sh_up h q (false, 1, [.int t, .double pr, .int fl, .int x, va_rf pl, .int mo, .int he, .double en, .double si, .int dd, .int od, .int 0]))) _ _ _
  have f_q_2 : (sh_up h q (false, 1, [.int t, .double pr, .int fl, .int x, va_rf pl, .int mo, .int he, .double en, .double si, .int dd, .int od, .int 0])) q = some (false, 1, [.int t, .double pr, .int fl, .int x, va_rf pl, .int mo, .int he, .double en, .double si, .int dd, .int od, .int 0]) := sh_up_eq _ _ _
  refine sh_iload_n dc_Worker_finish_10 rfl rfl ?_
  exact sh_ireturn dc_Worker_finish_11 rfl rfl (by decide) (by decide)
theorem pt_Worker_setEnd_1 {n : Nat} {h : sh_Hp} {q : Nat} {a : UInt64} {b : UInt64} {t : Int32} {pr : UInt64} {fl : Int32} {oc : Int32} {pl : Option Nat} {mo : Int32} {he : Int32} {en : UInt64} {si : UInt64} {dd : Int32} {od : Int32} {tb : Int32} (f_q : h q = some (false, 1, [.int t, .double pr, .int fl, .int oc, va_rf pl, .int mo, .int he, .double en, .double si, .int dd, .int od, .int tb])) (c3 : (Op.cmpValue (FP.dcmp b FP.dconst0) .l) ≤ 0) : sh_M md_Worker_setEnd [.ref q, .double a, .double b] (n, h) (.inl (none, (n, h))) := by
  refine sh_dload_n dc_Worker_setEnd_0 rfl rfl ?_
  refine sh_dconst0 dc_Worker_setEnd_1 ?_
  refine sh_dcmp dc_Worker_setEnd_2 ?_
  refine sh_if_le (tgt := 18) dc_Worker_setEnd_3 (by decide) (fun _ => ?_) (fun z => absurd c3 z)
  exact sh_return dc_Worker_setEnd_18 rfl (by decide) (by decide)
theorem pt_Worker_setEnd_2 {n : Nat} {h : sh_Hp} {q : Nat} {a : UInt64} {b : UInt64} {t : Int32} {pr : UInt64} {fl : Int32} {oc : Int32} {pl : Option Nat} {mo : Int32} {he : Int32} {en : UInt64} {si : UInt64} {dd : Int32} {od : Int32} {tb : Int32} (f_q : h q = some (false, 1, [.int t, .double pr, .int fl, .int oc, va_rf pl, .int mo, .int he, .double en, .double si, .int dd, .int od, .int tb])) (c3 : ¬ (Op.cmpValue (FP.dcmp b FP.dconst0) .l) ≤ 0) (v14 : vf_n64 (FP.dadd a b)) : sh_M md_Worker_setEnd [.ref q, .double a, .double b] (n, h) (.inl (none, (n, (sh_up h q (false, 1, [.int t, .double pr, .int fl, .int oc, va_rf pl, .int mo, .int 1, .double (FP.dadd a b), .double si, .int dd, .int od, .int tb]))))) := by
  refine sh_dload_n dc_Worker_setEnd_0 rfl rfl ?_
  refine sh_dconst0 dc_Worker_setEnd_1 ?_
  refine sh_dcmp dc_Worker_setEnd_2 ?_
  refine sh_if_le (tgt := 18) dc_Worker_setEnd_3 (by decide) (fun z => absurd z c3) (fun _ => ?_)
  refine sh_aload_n dc_Worker_setEnd_6 rfl rfl ?_
  refine sh_iconst (v := 1) dc_Worker_setEnd_7 (by decide) ?_
  refine sh_put (k := 6) dc_Worker_setEnd_8 f_q rfl (by decide) fl_Worker_29 rfl pd_Z rfl rfl ?_
  show sh_V _ _ (n, (sh_up h q (false, 1, [.int t, .double pr, .int fl, .int oc, va_rf pl, .int mo, .int 1, .double en, .double si, .int dd, .int od, .int tb]))) _ _ _
  have f_q_1 : (sh_up h q (false, 1, [.int t, .double pr, .int fl, .int oc, va_rf pl, .int mo, .int 1, .double en, .double si, .int dd, .int od, .int tb])) q = some (false, 1, [.int t, .double pr, .int fl, .int oc, va_rf pl, .int mo, .int 1, .double en, .double si, .int dd, .int od, .int tb]) := sh_up_eq _ _ _
  refine sh_aload_n dc_Worker_setEnd_11 rfl rfl ?_
  refine sh_dload_n dc_Worker_setEnd_12 rfl rfl ?_
  refine sh_dload_n dc_Worker_setEnd_13 rfl rfl ?_
  refine sh_dadd dc_Worker_setEnd_14 v14 ?_
  refine sh_put (k := 7) dc_Worker_setEnd_15 f_q_1 rfl (by decide) fl_Worker_32 rfl pd_D rfl rfl ?_
  refine sh_Vh (sh_up_up _ _ _ _) ?_
  show sh_V _ _ (n, (sh_up h q (false, 1, [.int t, .double pr, .int fl, .int oc, va_rf pl, .int mo, .int 1, .double (FP.dadd a b), .double si, .int dd, .int od, .int tb]))) _ _ _
  have f_q_2 : (sh_up h q (false, 1, [.int t, .double pr, .int fl, .int oc, va_rf pl, .int mo, .int 1, .double (FP.dadd a b), .double si, .int dd, .int od, .int tb])) q = some (false, 1, [.int t, .double pr, .int fl, .int oc, va_rf pl, .int mo, .int 1, .double (FP.dadd a b), .double si, .int dd, .int od, .int tb]) := sh_up_eq _ _ _
  exact sh_return dc_Worker_setEnd_18 rfl (by decide) (by decide)
theorem pt_Waiters_size_1 {n : Nat} {h : sh_Hp} {q : Nat} {rw : Nat} {cn : Int32} (f_q : h q = some (false, 2, [.ref rw, .int cn])) : sh_M md_Waiters_size [.ref q] (n, h) (.inl (some (.int cn), (n, h))) := by
  refine sh_aload_n dc_Waiters_size_0 rfl rfl ?_
  refine sh_get (k := 1) dc_Waiters_size_1 f_q rfl (by decide) fl_Waiters_17 rfl ?_
  exact sh_ireturn dc_Waiters_size_4 rfl rfl (by decide) (by decide)
theorem pt_Hall_checkNumber_1 {n : Nat} {h : sh_Hp} {x : Int32} {lo : Int32} {hi : Int32} (c2 : x < lo) : sh_M md_Hall_checkNumber [.int x, .int lo, .int hi] (n, h) (.inr (1, h)) := by
  refine sh_iload_n dc_Hall_checkNumber_0 rfl rfl ?_
  refine sh_iload_n dc_Hall_checkNumber_1 rfl rfl ?_
  refine sh_icmp_lt (tgt := 10) dc_Hall_checkNumber_2 (by decide) (fun _ => ?_) (fun z => absurd c2 z)
  exact sh_thr (lx := 2) dc_Hall_checkNumber_10 dc_Hall_checkNumber_13 (Or.inl ⟨dc_Hall_checkNumber_14, rfl⟩) dc_Hall_checkNumber_16 dc_Hall_checkNumber_19 lx_Hall_227_231 (by decide +kernel) rfl (by decide) (by decide) (by decide) (by decide)
theorem pt_Hall_checkNumber_2 {n : Nat} {h : sh_Hp} {x : Int32} {lo : Int32} {hi : Int32} (c2 : ¬ x < lo) (c7 : x ≤ hi) : sh_M md_Hall_checkNumber [.int x, .int lo, .int hi] (n, h) (.inl (none, (n, h))) := by
  refine sh_iload_n dc_Hall_checkNumber_0 rfl rfl ?_
  refine sh_iload_n dc_Hall_checkNumber_1 rfl rfl ?_
  refine sh_icmp_lt (tgt := 10) dc_Hall_checkNumber_2 (by decide) (fun z => absurd z c2) (fun _ => ?_)
  refine sh_iload_n dc_Hall_checkNumber_5 rfl rfl ?_
  refine sh_iload_n dc_Hall_checkNumber_6 rfl rfl ?_
  refine sh_icmp_le (tgt := 20) dc_Hall_checkNumber_7 (by decide) (fun _ => ?_) (fun z => absurd c7 z)
  exact sh_return dc_Hall_checkNumber_20 rfl (by decide) (by decide)
theorem pt_Hall_checkNumber_3 {n : Nat} {h : sh_Hp} {x : Int32} {lo : Int32} {hi : Int32} (c2 : ¬ x < lo) (c7 : ¬ x ≤ hi) : sh_M md_Hall_checkNumber [.int x, .int lo, .int hi] (n, h) (.inr (1, h)) := by
  refine sh_iload_n dc_Hall_checkNumber_0 rfl rfl ?_
  refine sh_iload_n dc_Hall_checkNumber_1 rfl rfl ?_
  refine sh_icmp_lt (tgt := 10) dc_Hall_checkNumber_2 (by decide) (fun z => absurd z c2) (fun _ => ?_)
  refine sh_iload_n dc_Hall_checkNumber_5 rfl rfl ?_
  refine sh_iload_n dc_Hall_checkNumber_6 rfl rfl ?_
  refine sh_icmp_le (tgt := 20) dc_Hall_checkNumber_7 (by decide) (fun z => absurd z c7) (fun _ => ?_)
  exact sh_thr (lx := 2) dc_Hall_checkNumber_10 dc_Hall_checkNumber_13 (Or.inl ⟨dc_Hall_checkNumber_14, rfl⟩) dc_Hall_checkNumber_16 dc_Hall_checkNumber_19 lx_Hall_227_231 (by decide +kernel) rfl (by decide) (by decide) (by decide) (by decide)
theorem pt_Hall_checkAmount_1 {n : Nat} {h : sh_Hp} {x : UInt64} {lo : Int32} {hi : Int32} (c4 : (Op.cmpValue (FP.dcmp x (FP.i2d lo)) .l) < 0) : sh_M md_Hall_checkAmount [.double x, .int lo, .int hi] (n, h) (.inr (1, h)) := by
  refine sh_dload_n dc_Hall_checkAmount_0 rfl rfl ?_
  refine sh_iload_n dc_Hall_checkAmount_1 rfl rfl ?_
  refine sh_i2d dc_Hall_checkAmount_2 ?_
  refine sh_dcmp dc_Hall_checkAmount_3 ?_
  refine sh_if_lt (tgt := 14) dc_Hall_checkAmount_4 (by decide) (fun _ => ?_) (fun z => absurd c4 z)
  exact sh_thr (lx := 2) dc_Hall_checkAmount_14 dc_Hall_checkAmount_17 (Or.inl ⟨dc_Hall_checkAmount_18, rfl⟩) dc_Hall_checkAmount_20 dc_Hall_checkAmount_23 lx_Hall_227_231 (by decide +kernel) rfl (by decide) (by decide) (by decide) (by decide)
theorem pt_Hall_checkAmount_2 {n : Nat} {h : sh_Hp} {x : UInt64} {lo : Int32} {hi : Int32} (c4 : ¬ (Op.cmpValue (FP.dcmp x (FP.i2d lo)) .l) < 0) (c11 : (Op.cmpValue (FP.dcmp x (FP.i2d hi)) .g) ≤ 0) : sh_M md_Hall_checkAmount [.double x, .int lo, .int hi] (n, h) (.inl (none, (n, h))) := by
  refine sh_dload_n dc_Hall_checkAmount_0 rfl rfl ?_
  refine sh_iload_n dc_Hall_checkAmount_1 rfl rfl ?_
  refine sh_i2d dc_Hall_checkAmount_2 ?_
  refine sh_dcmp dc_Hall_checkAmount_3 ?_
  refine sh_if_lt (tgt := 14) dc_Hall_checkAmount_4 (by decide) (fun z => absurd z c4) (fun _ => ?_)
  refine sh_dload_n dc_Hall_checkAmount_7 rfl rfl ?_
  refine sh_iload_n dc_Hall_checkAmount_8 rfl rfl ?_
  refine sh_i2d dc_Hall_checkAmount_9 ?_
  refine sh_dcmp dc_Hall_checkAmount_10 ?_
  refine sh_if_le (tgt := 24) dc_Hall_checkAmount_11 (by decide) (fun _ => ?_) (fun z => absurd c11 z)
  exact sh_return dc_Hall_checkAmount_24 rfl (by decide) (by decide)
theorem pt_Hall_checkAmount_3 {n : Nat} {h : sh_Hp} {x : UInt64} {lo : Int32} {hi : Int32} (c4 : ¬ (Op.cmpValue (FP.dcmp x (FP.i2d lo)) .l) < 0) (c11 : ¬ (Op.cmpValue (FP.dcmp x (FP.i2d hi)) .g) ≤ 0) : sh_M md_Hall_checkAmount [.double x, .int lo, .int hi] (n, h) (.inr (1, h)) := by
  refine sh_dload_n dc_Hall_checkAmount_0 rfl rfl ?_
  refine sh_iload_n dc_Hall_checkAmount_1 rfl rfl ?_
  refine sh_i2d dc_Hall_checkAmount_2 ?_
  refine sh_dcmp dc_Hall_checkAmount_3 ?_
  refine sh_if_lt (tgt := 14) dc_Hall_checkAmount_4 (by decide) (fun z => absurd z c4) (fun _ => ?_)
  refine sh_dload_n dc_Hall_checkAmount_7 rfl rfl ?_
  refine sh_iload_n dc_Hall_checkAmount_8 rfl rfl ?_
  refine sh_i2d dc_Hall_checkAmount_9 ?_
  refine sh_dcmp dc_Hall_checkAmount_10 ?_
  refine sh_if_le (tgt := 24) dc_Hall_checkAmount_11 (by decide) (fun z => absurd z c11) (fun _ => ?_)
  exact sh_thr (lx := 2) dc_Hall_checkAmount_14 dc_Hall_checkAmount_17 (Or.inl ⟨dc_Hall_checkAmount_18, rfl⟩) dc_Hall_checkAmount_20 dc_Hall_checkAmount_23 lx_Hall_227_231 (by decide +kernel) rfl (by decide) (by decide) (by decide) (by decide)
theorem pt_Lock_isAgain_1 {n : Nat} {h : sh_Hp} {q : Nat} {u : Nat} {kd : Int32} {wt : Nat} {ws : UInt64} {wc : Int32} {ow : Option Nat} {dp : Int32} (f_q : h q = some (false, 4, [.int kd, .ref wt, .double ws, .int wc, va_rf ow, .int dp])) (c5 : ¬ kd = 1) : sh_M md_Lock_isAgain [.ref q, .ref u] (n, h) (.inl (some (.int 0), (n, h))) := by
  refine sh_aload_n dc_Lock_isAgain_0 rfl rfl ?_
  refine sh_get (k := 0) dc_Lock_isAgain_1 f_q rfl (by decide) fl_Lock_41 rfl ?_
  refine sh_iconst (v := 1) dc_Lock_isAgain_4 (by decide) ?_
  refine sh_icmp_ne (tgt := 20) dc_Lock_isAgain_5 (by decide) (fun _ => ?_) (fun z => absurd c5 z)
  refine sh_iconst (v := 0) dc_Lock_isAgain_20 (by decide) ?_
  exact sh_ireturn dc_Lock_isAgain_21 rfl rfl (by decide) (by decide)
theorem pt_Lock_isAgain_2 {n : Nat} {h : sh_Hp} {q : Nat} {u : Nat} {kd : Int32} {wt : Nat} {ws : UInt64} {wc : Int32} {dp : Int32} (f_q : h q = some (false, 4, [.int kd, .ref wt, .double ws, .int wc, .null, .int dp])) (c5 : kd = 1) : sh_M md_Lock_isAgain [.ref q, .ref u] (n, h) (.inl (some (.int 0), (n, h))) := by
  refine sh_aload_n dc_Lock_isAgain_0 rfl rfl ?_
  refine sh_get (k := 0) dc_Lock_isAgain_1 f_q rfl (by decide) fl_Lock_41 rfl ?_
  refine sh_iconst (v := 1) dc_Lock_isAgain_4 (by decide) ?_
  refine sh_icmp_ne (tgt := 20) dc_Lock_isAgain_5 (by decide) (fun z => absurd c5 z) (fun _ => ?_)
  refine sh_aload_n dc_Lock_isAgain_8 rfl rfl ?_
  refine sh_get (k := 4) dc_Lock_isAgain_9 f_q rfl (by decide) fl_Lock_9 rfl ?_
  refine sh_aload_n dc_Lock_isAgain_12 rfl rfl ?_
  refine sh_acmp_ne (rx := none) (ry := (some u)) (tgt := 20) dc_Lock_isAgain_13 (by decide) (fun _ => ?_) (fun z => absurd z (fun z => by cases z))
  refine sh_iconst (v := 0) dc_Lock_isAgain_20 (by decide) ?_
  exact sh_ireturn dc_Lock_isAgain_21 rfl rfl (by decide) (by decide)
theorem pt_Lock_isAgain_3 {n : Nat} {h : sh_Hp} {q : Nat} {u : Nat} {kd : Int32} {wt : Nat} {ws : UInt64} {wc : Int32} {owq : Nat} {dp : Int32} (f_q : h q = some (false, 4, [.int kd, .ref wt, .double ws, .int wc, .ref owq, .int dp])) (c5 : kd = 1) (c13 : owq = u) : sh_M md_Lock_isAgain [.ref q, .ref u] (n, h) (.inl (some (.int 1), (n, h))) := by
  refine sh_aload_n dc_Lock_isAgain_0 rfl rfl ?_
  refine sh_get (k := 0) dc_Lock_isAgain_1 f_q rfl (by decide) fl_Lock_41 rfl ?_
  refine sh_iconst (v := 1) dc_Lock_isAgain_4 (by decide) ?_
  refine sh_icmp_ne (tgt := 20) dc_Lock_isAgain_5 (by decide) (fun z => absurd c5 z) (fun _ => ?_)
  refine sh_aload_n dc_Lock_isAgain_8 rfl rfl ?_
  refine sh_get (k := 4) dc_Lock_isAgain_9 f_q rfl (by decide) fl_Lock_9 rfl ?_
  refine sh_aload_n dc_Lock_isAgain_12 rfl rfl ?_
  refine sh_acmp_ne (rx := (some owq)) (ry := (some u)) (tgt := 20) dc_Lock_isAgain_13 (by decide) (fun z => absurd (congrArg some c13) z) (fun _ => ?_)
  refine sh_iconst (v := 1) dc_Lock_isAgain_16 (by decide) ?_
  refine sh_goto_ (tgt := 21) dc_Lock_isAgain_17 (by decide) ?_
  exact sh_ireturn dc_Lock_isAgain_21 rfl rfl (by decide) (by decide)
theorem pt_Lock_isAgain_4 {n : Nat} {h : sh_Hp} {q : Nat} {u : Nat} {kd : Int32} {wt : Nat} {ws : UInt64} {wc : Int32} {owq : Nat} {dp : Int32} (f_q : h q = some (false, 4, [.int kd, .ref wt, .double ws, .int wc, .ref owq, .int dp])) (c5 : kd = 1) (c13 : owq ≠ u) : sh_M md_Lock_isAgain [.ref q, .ref u] (n, h) (.inl (some (.int 0), (n, h))) := by
  refine sh_aload_n dc_Lock_isAgain_0 rfl rfl ?_
  refine sh_get (k := 0) dc_Lock_isAgain_1 f_q rfl (by decide) fl_Lock_41 rfl ?_
  refine sh_iconst (v := 1) dc_Lock_isAgain_4 (by decide) ?_
  refine sh_icmp_ne (tgt := 20) dc_Lock_isAgain_5 (by decide) (fun z => absurd c5 z) (fun _ => ?_)
  refine sh_aload_n dc_Lock_isAgain_8 rfl rfl ?_
  refine sh_get (k := 4) dc_Lock_isAgain_9 f_q rfl (by decide) fl_Lock_9 rfl ?_
  refine sh_aload_n dc_Lock_isAgain_12 rfl rfl ?_
  refine sh_acmp_ne (rx := (some owq)) (ry := (some u)) (tgt := 20) dc_Lock_isAgain_13 (by decide) (fun _ => ?_) (fun z => absurd z (fun z => c13 (Option.some.inj z)))
  refine sh_iconst (v := 0) dc_Lock_isAgain_20 (by decide) ?_
  exact sh_ireturn dc_Lock_isAgain_21 rfl rfl (by decide) (by decide)
theorem pt_Lock_free_1 {n : Nat} {h : sh_Hp} {q : Nat} {kd : Int32} {wt : Nat} {ws : UInt64} {wc : Int32} {ow : Option Nat} {dp : Int32} (f_q : h q = some (false, 4, [.int kd, .ref wt, .double ws, .int wc, va_rf ow, .int dp])) : sh_M md_Lock_free [.ref q] (n, h) (.inl (none, (n, (sh_up h q (false, 4, [.int kd, .ref wt, .double ws, .int wc, .null, .int 0]))))) := by
  refine sh_aload_n dc_Lock_free_0 rfl rfl ?_
  refine sh_anull dc_Lock_free_1 ?_
  refine sh_put (k := 4) dc_Lock_free_2 f_q rfl (by decide) fl_Lock_9 rfl pd_LWorker rfl rfl ?_
  show sh_V _ _ (n, (sh_up h q (false, 4, [.int kd, .ref wt, .double ws, .int wc, .null, .int dp]))) _ _ _
  have f_q_1 : (sh_up h q (false, 4, [.int kd, .ref wt, .double ws, .int wc, .null, .int dp])) q = some (false, 4, [.int kd, .ref wt, .double ws, .int wc, .null, .int dp]) := sh_up_eq _ _ _
  refine sh_aload_n dc_Lock_free_5 rfl rfl ?_
  refine sh_iconst (v := 0) dc_Lock_free_6 (by decide) ?_
  refine sh_put (k := 5) dc_Lock_free_7 f_q_1 rfl (by decide) fl_Lock_29 rfl pd_I rfl rfl ?_
  refine sh_Vh (sh_up_up _ _ _ _) ?_
  show sh_V _ _ (n, (sh_up h q (false, 4, [.int kd, .ref wt, .double ws, .int wc, .null, .int 0]))) _ _ _
  have f_q_2 : (sh_up h q (false, 4, [.int kd, .ref wt, .double ws, .int wc, .null, .int 0])) q = some (false, 4, [.int kd, .ref wt, .double ws, .int wc, .null, .int 0]) := sh_up_eq _ _ _
  exact sh_return dc_Lock_free_10 rfl (by decide) (by decide)
theorem pt_Lock_take_1 {n : Nat} {h : sh_Hp} {q : Nat} {u : Nat} {m : Int32} {s : Int32} {kd : Int32} {wt : Nat} {ws : UInt64} {wc : Int32} {ow : Option Nat} {dp : Int32} (f_q : h q = some (false, 4, [.int kd, .ref wt, .double ws, .int wc, va_rf ow, .int dp])) : sh_M md_Lock_take [.ref q, .ref u, .int m, .int s] (n, h) (.inl (none, (n, (sh_up h q (false, 4, [.int kd, .ref wt, .double ws, .int wc, .ref u, .int (dp + s)]))))) := by
  refine sh_aload_n dc_Lock_take_0 rfl rfl ?_
  refine sh_aload_n dc_Lock_take_1 rfl rfl ?_
  refine sh_put (k := 4) dc_Lock_take_2 f_q rfl (by decide) fl_Lock_9 rfl pd_LWorker rfl rfl ?_
  show sh_V _ _ (n, (sh_up h q (false, 4, [.int kd, .ref wt, .double ws, .int wc, .ref u, .int dp]))) _ _ _
  have f_q_1 : (sh_up h q (false, 4, [.int kd, .ref wt, .double ws, .int wc, .ref u, .int dp])) q = some (false, 4, [.int kd, .ref wt, .double ws, .int wc, .ref u, .int dp]) := sh_up_eq _ _ _
  refine sh_aload_n dc_Lock_take_5 rfl rfl ?_
  refine sh_dup dc_Lock_take_6 rfl ?_
  refine sh_get (k := 5) dc_Lock_take_7 f_q_1 rfl (by decide) fl_Lock_29 rfl ?_
  refine sh_iload_n dc_Lock_take_10 rfl rfl ?_
  refine sh_iadd dc_Lock_take_11 ?_
  refine sh_put (k := 5) dc_Lock_take_12 f_q_1 rfl (by decide) fl_Lock_29 rfl pd_I rfl rfl ?_
  refine sh_Vh (sh_up_up _ _ _ _) ?_
  show sh_V _ _ (n, (sh_up h q (false, 4, [.int kd, .ref wt, .double ws, .int wc, .ref u, .int (dp + s)]))) _ _ _
  have f_q_2 : (sh_up h q (false, 4, [.int kd, .ref wt, .double ws, .int wc, .ref u, .int (dp + s)])) q = some (false, 4, [.int kd, .ref wt, .double ws, .int wc, .ref u, .int (dp + s)]) := sh_up_eq _ _ _
  exact sh_return dc_Lock_take_15 rfl (by decide) (by decide)
theorem pt_Lock_holdOf_1 {n : Nat} {h : sh_Hp} {q : Nat} {u : Nat} {kd : Int32} {wt : Nat} {ws : UInt64} {wc : Int32} {dp : Int32} (f_q : h q = some (false, 4, [.int kd, .ref wt, .double ws, .int wc, .null, .int dp])) : sh_M md_Lock_holdOf [.ref q, .ref u] (n, h) (.inl (some (.int 0), (n, h))) := by
  refine sh_aload_n dc_Lock_holdOf_0 rfl rfl ?_
  refine sh_get (k := 4) dc_Lock_holdOf_1 f_q rfl (by decide) fl_Lock_9 rfl ?_
  refine sh_aload_n dc_Lock_holdOf_4 rfl rfl ?_
  refine sh_acmp_ne (rx := none) (ry := (some u)) (tgt := 15) dc_Lock_holdOf_5 (by decide) (fun _ => ?_) (fun z => absurd z (fun z => by cases z))
  refine sh_iconst (v := 0) dc_Lock_holdOf_15 (by decide) ?_
  exact sh_ireturn dc_Lock_holdOf_16 rfl rfl (by decide) (by decide)
theorem pt_Lock_holdOf_2 {n : Nat} {h : sh_Hp} {q : Nat} {u : Nat} {kd : Int32} {wt : Nat} {ws : UInt64} {wc : Int32} {owq : Nat} {dp : Int32} (f_q : h q = some (false, 4, [.int kd, .ref wt, .double ws, .int wc, .ref owq, .int dp])) (c5 : owq = u) : sh_M md_Lock_holdOf [.ref q, .ref u] (n, h) (.inl (some (.int dp), (n, h))) := by
  refine sh_aload_n dc_Lock_holdOf_0 rfl rfl ?_
  refine sh_get (k := 4) dc_Lock_holdOf_1 f_q rfl (by decide) fl_Lock_9 rfl ?_
  refine sh_aload_n dc_Lock_holdOf_4 rfl rfl ?_
  refine sh_acmp_ne (rx := (some owq)) (ry := (some u)) (tgt := 15) dc_Lock_holdOf_5 (by decide) (fun z => absurd (congrArg some c5) z) (fun _ => ?_)
  refine sh_aload_n dc_Lock_holdOf_8 rfl rfl ?_
  refine sh_get (k := 5) dc_Lock_holdOf_9 f_q rfl (by decide) fl_Lock_29 rfl ?_
  refine sh_goto_ (tgt := 16) dc_Lock_holdOf_12 (by decide) ?_
  exact sh_ireturn dc_Lock_holdOf_16 rfl rfl (by decide) (by decide)
theorem pt_Lock_holdOf_3 {n : Nat} {h : sh_Hp} {q : Nat} {u : Nat} {kd : Int32} {wt : Nat} {ws : UInt64} {wc : Int32} {owq : Nat} {dp : Int32} (f_q : h q = some (false, 4, [.int kd, .ref wt, .double ws, .int wc, .ref owq, .int dp])) (c5 : owq ≠ u) : sh_M md_Lock_holdOf [.ref q, .ref u] (n, h) (.inl (some (.int 0), (n, h))) := by
  refine sh_aload_n dc_Lock_holdOf_0 rfl rfl ?_
  refine sh_get (k := 4) dc_Lock_holdOf_1 f_q rfl (by decide) fl_Lock_9 rfl ?_
  refine sh_aload_n dc_Lock_holdOf_4 rfl rfl ?_
  refine sh_acmp_ne (rx := (some owq)) (ry := (some u)) (tgt := 15) dc_Lock_holdOf_5 (by decide) (fun _ => ?_) (fun z => absurd z (fun z => c5 (Option.some.inj z)))
  refine sh_iconst (v := 0) dc_Lock_holdOf_15 (by decide) ?_
  exact sh_ireturn dc_Lock_holdOf_16 rfl rfl (by decide) (by decide)
theorem pt_Semaphore_canTake_1 {n : Nat} {h : sh_Hp} {q : Nat} {u : Nat} {m : Int32} {kd : Int32} {wt : Nat} {ws : UInt64} {wc : Int32} {pm : Int32} (f_q : h q = some (false, 5, [.int kd, .ref wt, .double ws, .int wc, .int pm])) (c4 : pm ≤ 0) : sh_M md_Semaphore_canTake [.ref q, .ref u, .int m] (n, h) (.inl (some (.int 0), (n, h))) := by
  refine sh_aload_n dc_Semaphore_canTake_0 rfl rfl ?_
  refine sh_get (k := 4) dc_Semaphore_canTake_1 f_q rfl (by decide) fl_Semaphore_9 rfl ?_
  refine sh_if_le (tgt := 11) dc_Semaphore_canTake_4 (by decide) (fun _ => ?_) (fun z => absurd c4 z)
  refine sh_iconst (v := 0) dc_Semaphore_canTake_11 (by decide) ?_
  exact sh_ireturn dc_Semaphore_canTake_12 rfl rfl (by decide) (by decide)
theorem pt_Semaphore_canTake_2 {n : Nat} {h : sh_Hp} {q : Nat} {u : Nat} {m : Int32} {kd : Int32} {wt : Nat} {ws : UInt64} {wc : Int32} {pm : Int32} (f_q : h q = some (false, 5, [.int kd, .ref wt, .double ws, .int wc, .int pm])) (c4 : ¬ pm ≤ 0) : sh_M md_Semaphore_canTake [.ref q, .ref u, .int m] (n, h) (.inl (some (.int 1), (n, h))) := by
  refine sh_aload_n dc_Semaphore_canTake_0 rfl rfl ?_
  refine sh_get (k := 4) dc_Semaphore_canTake_1 f_q rfl (by decide) fl_Semaphore_9 rfl ?_
  refine sh_if_le (tgt := 11) dc_Semaphore_canTake_4 (by decide) (fun z => absurd z c4) (fun _ => ?_)
  refine sh_iconst (v := 1) dc_Semaphore_canTake_7 (by decide) ?_
  refine sh_goto_ (tgt := 12) dc_Semaphore_canTake_8 (by decide) ?_
  exact sh_ireturn dc_Semaphore_canTake_12 rfl rfl (by decide) (by decide)
theorem pt_Semaphore_take_1 {n : Nat} {h : sh_Hp} {q : Nat} {u : Nat} {m : Int32} {s : Int32} {kd : Int32} {wt : Nat} {ws : UInt64} {wc : Int32} {pm : Int32} (f_q : h q = some (false, 5, [.int kd, .ref wt, .double ws, .int wc, .int pm])) : sh_M md_Semaphore_take [.ref q, .ref u, .int m, .int s] (n, h) (.inl (none, (n, (sh_up h q (false, 5, [.int kd, .ref wt, .double ws, .int wc, .int (pm - 1)]))))) := by
  refine sh_aload_n dc_Semaphore_take_0 rfl rfl ?_
  refine sh_dup dc_Semaphore_take_1 rfl ?_
  refine sh_get (k := 4) dc_Semaphore_take_2 f_q rfl (by decide) fl_Semaphore_9 rfl ?_
  refine sh_iconst (v := 1) dc_Semaphore_take_5 (by decide) ?_
  refine sh_isub dc_Semaphore_take_6 ?_
  refine sh_put (k := 4) dc_Semaphore_take_7 f_q rfl (by decide) fl_Semaphore_9 rfl pd_I rfl rfl ?_
  show sh_V _ _ (n, (sh_up h q (false, 5, [.int kd, .ref wt, .double ws, .int wc, .int (pm - 1)]))) _ _ _
  have f_q_1 : (sh_up h q (false, 5, [.int kd, .ref wt, .double ws, .int wc, .int (pm - 1)])) q = some (false, 5, [.int kd, .ref wt, .double ws, .int wc, .int (pm - 1)]) := sh_up_eq _ _ _
  exact sh_return dc_Semaphore_take_10 rfl (by decide) (by decide)
theorem pt_Semaphore_giveBack_1 {n : Nat} {h : sh_Hp} {q : Nat} {u : Nat} {m : Int32} {kd : Int32} {wt : Nat} {ws : UInt64} {wc : Int32} {pm : Int32} (f_q : h q = some (false, 5, [.int kd, .ref wt, .double ws, .int wc, .int pm])) (c6 : pm < 100) : sh_M md_Semaphore_giveBack [.ref q, .ref u, .int m] (n, h) (.inl (none, (n, (sh_up h q (false, 5, [.int kd, .ref wt, .double ws, .int wc, .int (pm + 1)]))))) := by
  refine sh_aload_n dc_Semaphore_giveBack_0 rfl rfl ?_
  refine sh_get (k := 4) dc_Semaphore_giveBack_1 f_q rfl (by decide) fl_Semaphore_9 rfl ?_
  refine sh_bipush (v := 100) dc_Semaphore_giveBack_4 (by decide) ?_
  refine sh_icmp_lt (tgt := 19) dc_Semaphore_giveBack_6 (by decide) (fun _ => ?_) (fun z => absurd c6 z)
  refine sh_aload_n dc_Semaphore_giveBack_19 rfl rfl ?_
  refine sh_dup dc_Semaphore_giveBack_20 rfl ?_
  refine sh_get (k := 4) dc_Semaphore_giveBack_21 f_q rfl (by decide) fl_Semaphore_9 rfl ?_
  refine sh_iconst (v := 1) dc_Semaphore_giveBack_24 (by decide) ?_
  refine sh_iadd dc_Semaphore_giveBack_25 ?_
  refine sh_put (k := 4) dc_Semaphore_giveBack_26 f_q rfl (by decide) fl_Semaphore_9 rfl pd_I rfl rfl ?_
  show sh_V _ _ (n, (sh_up h q (false, 5, [.int kd, .ref wt, .double ws, .int wc, .int (pm + 1)]))) _ _ _
  have f_q_1 : (sh_up h q (false, 5, [.int kd, .ref wt, .double ws, .int wc, .int (pm + 1)])) q = some (false, 5, [.int kd, .ref wt, .double ws, .int wc, .int (pm + 1)]) := sh_up_eq _ _ _
  exact sh_return dc_Semaphore_giveBack_29 rfl (by decide) (by decide)
theorem pt_Semaphore_giveBack_2 {n : Nat} {h : sh_Hp} {q : Nat} {u : Nat} {m : Int32} {kd : Int32} {wt : Nat} {ws : UInt64} {wc : Int32} {pm : Int32} (f_q : h q = some (false, 5, [.int kd, .ref wt, .double ws, .int wc, .int pm])) (c6 : ¬ pm < 100) : sh_M md_Semaphore_giveBack [.ref q, .ref u, .int m] (n, h) (.inr (4, h)) := by
  refine sh_aload_n dc_Semaphore_giveBack_0 rfl rfl ?_
  refine sh_get (k := 4) dc_Semaphore_giveBack_1 f_q rfl (by decide) fl_Semaphore_9 rfl ?_
  refine sh_bipush (v := 100) dc_Semaphore_giveBack_4 (by decide) ?_
  refine sh_icmp_lt (tgt := 19) dc_Semaphore_giveBack_6 (by decide) (fun z => absurd z c6) (fun _ => ?_)
  exact sh_thr (lx := 2) dc_Semaphore_giveBack_9 dc_Semaphore_giveBack_12 (Or.inl ⟨dc_Semaphore_giveBack_13, rfl⟩) dc_Semaphore_giveBack_15 dc_Semaphore_giveBack_18 lx_Semaphore_25_29 (by decide +kernel) rfl (by decide) (by decide) (by decide) (by decide)
theorem pt_Semaphore_amount_1 {n : Nat} {h : sh_Hp} {q : Nat} {kd : Int32} {wt : Nat} {ws : UInt64} {wc : Int32} {pm : Int32} (f_q : h q = some (false, 5, [.int kd, .ref wt, .double ws, .int wc, .int pm])) : sh_M md_Semaphore_amount [.ref q] (n, h) (.inl (some (.int pm), (n, h))) := by
  refine sh_aload_n dc_Semaphore_amount_0 rfl rfl ?_
  refine sh_get (k := 4) dc_Semaphore_amount_1 f_q rfl (by decide) fl_Semaphore_9 rfl ?_
  exact sh_ireturn dc_Semaphore_amount_4 rfl rfl (by decide) (by decide)
theorem pt_Latch_canTake_1 {n : Nat} {h : sh_Hp} {q : Nat} {u : Nat} {m : Int32} {kd : Int32} {wt : Nat} {ws : UInt64} {wc : Int32} {pm : Int32} (f_q : h q = some (false, 6, [.int kd, .ref wt, .double ws, .int wc, .int pm])) (c4 : ¬ pm = 0) : sh_M md_Latch_canTake [.ref q, .ref u, .int m] (n, h) (.inl (some (.int 0), (n, h))) := by
  refine sh_aload_n dc_Latch_canTake_0 rfl rfl ?_
  refine sh_get (k := 4) dc_Latch_canTake_1 f_q rfl (by decide) fl_Latch_9 rfl ?_
  refine sh_if_ne (tgt := 11) dc_Latch_canTake_4 (by decide) (fun _ => ?_) (fun z => absurd c4 z)
  refine sh_iconst (v := 0) dc_Latch_canTake_11 (by decide) ?_
  exact sh_ireturn dc_Latch_canTake_12 rfl rfl (by decide) (by decide)
theorem pt_Latch_canTake_2 {n : Nat} {h : sh_Hp} {q : Nat} {u : Nat} {m : Int32} {kd : Int32} {wt : Nat} {ws : UInt64} {wc : Int32} {pm : Int32} (f_q : h q = some (false, 6, [.int kd, .ref wt, .double ws, .int wc, .int pm])) (c4 : pm = 0) : sh_M md_Latch_canTake [.ref q, .ref u, .int m] (n, h) (.inl (some (.int 1), (n, h))) := by
  refine sh_aload_n dc_Latch_canTake_0 rfl rfl ?_
  refine sh_get (k := 4) dc_Latch_canTake_1 f_q rfl (by decide) fl_Latch_9 rfl ?_
  refine sh_if_ne (tgt := 11) dc_Latch_canTake_4 (by decide) (fun z => absurd c4 z) (fun _ => ?_)
  refine sh_iconst (v := 1) dc_Latch_canTake_7 (by decide) ?_
  refine sh_goto_ (tgt := 12) dc_Latch_canTake_8 (by decide) ?_
  exact sh_ireturn dc_Latch_canTake_12 rfl rfl (by decide) (by decide)
theorem pt_Latch_mustQueue_1 {n : Nat} {h : sh_Hp} {q : Nat} {u : Nat} {m : Int32} {kd : Int32} {wt : Nat} {ws : UInt64} {wc : Int32} {pm : Int32} (f_q : h q = some (false, 6, [.int kd, .ref wt, .double ws, .int wc, .int pm])) : sh_M md_Latch_mustQueue [.ref q, .ref u, .int m] (n, h) (.inl (some (.int 0), (n, h))) := by
  refine sh_iconst (v := 0) dc_Latch_mustQueue_0 (by decide) ?_
  exact sh_ireturn dc_Latch_mustQueue_1 rfl rfl (by decide) (by decide)
theorem pt_Latch_giveBack_1 {n : Nat} {h : sh_Hp} {q : Nat} {u : Nat} {m : Int32} {kd : Int32} {wt : Nat} {ws : UInt64} {wc : Int32} {pm : Int32} (f_q : h q = some (false, 6, [.int kd, .ref wt, .double ws, .int wc, .int pm])) (c4 : pm ≤ 0) : sh_M md_Latch_giveBack [.ref q, .ref u, .int m] (n, h) (.inl (none, (n, h))) := by
  refine sh_aload_n dc_Latch_giveBack_0 rfl rfl ?_
  refine sh_get (k := 4) dc_Latch_giveBack_1 f_q rfl (by decide) fl_Latch_9 rfl ?_
  refine sh_if_le (tgt := 17) dc_Latch_giveBack_4 (by decide) (fun _ => ?_) (fun z => absurd c4 z)
  exact sh_return dc_Latch_giveBack_17 rfl (by decide) (by decide)
theorem pt_Latch_giveBack_2 {n : Nat} {h : sh_Hp} {q : Nat} {u : Nat} {m : Int32} {kd : Int32} {wt : Nat} {ws : UInt64} {wc : Int32} {pm : Int32} (f_q : h q = some (false, 6, [.int kd, .ref wt, .double ws, .int wc, .int pm])) (c4 : ¬ pm ≤ 0) : sh_M md_Latch_giveBack [.ref q, .ref u, .int m] (n, h) (.inl (none, (n, (sh_up h q (false, 6, [.int kd, .ref wt, .double ws, .int wc, .int (pm - 1)]))))) := by
  refine sh_aload_n dc_Latch_giveBack_0 rfl rfl ?_
  refine sh_get (k := 4) dc_Latch_giveBack_1 f_q rfl (by decide) fl_Latch_9 rfl ?_
  refine sh_if_le (tgt := 17) dc_Latch_giveBack_4 (by decide) (fun z => absurd z c4) (fun _ => ?_)
  refine sh_aload_n dc_Latch_giveBack_7 rfl rfl ?_
  refine sh_dup dc_Latch_giveBack_8 rfl ?_
  refine sh_get (k := 4) dc_Latch_giveBack_9 f_q rfl (by decide) fl_Latch_9 rfl ?_
  refine sh_iconst (v := 1) dc_Latch_giveBack_12 (by decide) ?_
  refine sh_isub dc_Latch_giveBack_13 ?_
  refine sh_put (k := 4) dc_Latch_giveBack_14 f_q rfl (by decide) fl_Latch_9 rfl pd_I rfl rfl ?_
  show sh_V _ _ (n, (sh_up h q (false, 6, [.int kd, .ref wt, .double ws, .int wc, .int (pm - 1)]))) _ _ _
  have f_q_1 : (sh_up h q (false, 6, [.int kd, .ref wt, .double ws, .int wc, .int (pm - 1)])) q = some (false, 6, [.int kd, .ref wt, .double ws, .int wc, .int (pm - 1)]) := sh_up_eq _ _ _
  exact sh_return dc_Latch_giveBack_17 rfl (by decide) (by decide)
theorem pt_Latch_take_1 {n : Nat} {h : sh_Hp} {q : Nat} {u : Nat} {m : Int32} {s : Int32} {kd : Int32} {wt : Nat} {ws : UInt64} {wc : Int32} {pm : Int32} (f_q : h q = some (false, 6, [.int kd, .ref wt, .double ws, .int wc, .int pm])) : sh_M md_Latch_take [.ref q, .ref u, .int m, .int s] (n, h) (.inl (none, (n, h))) := by
  exact sh_return dc_Latch_take_0 rfl (by decide) (by decide)
theorem pt_Latch_amount_1 {n : Nat} {h : sh_Hp} {q : Nat} {kd : Int32} {wt : Nat} {ws : UInt64} {wc : Int32} {pm : Int32} (f_q : h q = some (false, 6, [.int kd, .ref wt, .double ws, .int wc, .int pm])) : sh_M md_Latch_amount [.ref q] (n, h) (.inl (some (.int pm), (n, h))) := by
  refine sh_aload_n dc_Latch_amount_0 rfl rfl ?_
  refine sh_get (k := 4) dc_Latch_amount_1 f_q rfl (by decide) fl_Latch_9 rfl ?_
  exact sh_ireturn dc_Latch_amount_4 rfl rfl (by decide) (by decide)
theorem pt_Hall_checkOwner_1 {n : Nat} {h : sh_Hp} {u : Nat} {q : Nat} {kd : Int32} {wt : Nat} {ws : UInt64} {wc : Int32} {dp : Int32} (f_q : h q = some (false, 4, [.int kd, .ref wt, .double ws, .int wc, .null, .int dp])) : sh_M md_Hall_checkOwner [.ref u, .ref q] (n, h) (.inr (3, h)) := by
  refine sh_aload_n dc_Hall_checkOwner_0 rfl rfl ?_
  refine sh_get (k := 4) dc_Hall_checkOwner_1 f_q rfl (by decide) fl_Hall_254 rfl ?_
  refine sh_aload_n dc_Hall_checkOwner_4 rfl rfl ?_
  refine sh_acmp_eq (rx := none) (ry := (some u)) (tgt := 19) dc_Hall_checkOwner_5 (by decide) (fun z => absurd z (fun z => by cases z)) (fun _ => ?_)
  exact sh_thr (lx := 3) dc_Hall_checkOwner_8 dc_Hall_checkOwner_11 (Or.inr ⟨dc_Hall_checkOwner_12, rfl⟩) dc_Hall_checkOwner_15 dc_Hall_checkOwner_18 lx_Hall_51_55 (by decide +kernel) rfl (by decide) (by decide) (by decide) (by decide)
theorem pt_Hall_checkOwner_2 {n : Nat} {h : sh_Hp} {u : Nat} {q : Nat} {kd : Int32} {wt : Nat} {ws : UInt64} {wc : Int32} {owq : Nat} {dp : Int32} (f_q : h q = some (false, 4, [.int kd, .ref wt, .double ws, .int wc, .ref owq, .int dp])) (c5 : owq = u) : sh_M md_Hall_checkOwner [.ref u, .ref q] (n, h) (.inl (none, (n, h))) := by
  refine sh_aload_n dc_Hall_checkOwner_0 rfl rfl ?_
  refine sh_get (k := 4) dc_Hall_checkOwner_1 f_q rfl (by decide) fl_Hall_254 rfl ?_
  refine sh_aload_n dc_Hall_checkOwner_4 rfl rfl ?_
  refine sh_acmp_eq (rx := (some owq)) (ry := (some u)) (tgt := 19) dc_Hall_checkOwner_5 (by decide) (fun _ => ?_) (fun z => absurd (congrArg some c5) z)
  exact sh_return dc_Hall_checkOwner_19 rfl (by decide) (by decide)
theorem pt_Hall_checkOwner_3 {n : Nat} {h : sh_Hp} {u : Nat} {q : Nat} {kd : Int32} {wt : Nat} {ws : UInt64} {wc : Int32} {owq : Nat} {dp : Int32} (f_q : h q = some (false, 4, [.int kd, .ref wt, .double ws, .int wc, .ref owq, .int dp])) (c5 : owq ≠ u) : sh_M md_Hall_checkOwner [.ref u, .ref q] (n, h) (.inr (3, h)) := by
  refine sh_aload_n dc_Hall_checkOwner_0 rfl rfl ?_
  refine sh_get (k := 4) dc_Hall_checkOwner_1 f_q rfl (by decide) fl_Hall_254 rfl ?_
  refine sh_aload_n dc_Hall_checkOwner_4 rfl rfl ?_
  refine sh_acmp_eq (rx := (some owq)) (ry := (some u)) (tgt := 19) dc_Hall_checkOwner_5 (by decide) (fun z => absurd z (fun z => c5 (Option.some.inj z))) (fun _ => ?_)
  exact sh_thr (lx := 3) dc_Hall_checkOwner_8 dc_Hall_checkOwner_11 (Or.inr ⟨dc_Hall_checkOwner_12, rfl⟩) dc_Hall_checkOwner_15 dc_Hall_checkOwner_18 lx_Hall_51_55 (by decide +kernel) rfl (by decide) (by decide) (by decide) (by decide)
theorem pt_Hall_time_1 {n : Nat} {h : sh_Hp} {q : Nat} {wk : Nat} {sy : Nat} {od : Nat} {sc : Int32} {nw : UInt64} (f_q : h q = some (false, 0, [.ref wk, .ref sy, .ref od, .int sc, .double nw])) : sh_M md_Hall_time [.ref q] (n, h) (.inl (some (.double nw), (n, h))) := by
  refine sh_aload_n dc_Hall_time_0 rfl rfl ?_
  refine sh_get (k := 4) dc_Hall_time_1 f_q rfl (by decide) fl_Hall_35 rfl ?_
  exact sh_dreturn dc_Hall_time_4 rfl (by decide) (by decide)
theorem pt_Sync_addWaited_Lock_1 {n : Nat} {h : sh_Hp} {q : Nat} {x : UInt64} {kd : Int32} {wt : Nat} {ws : UInt64} {wc : Int32} {ow : Option Nat} {dp : Int32} (f_q : h q = some (false, 4, [.int kd, .ref wt, .double ws, .int wc, va_rf ow, .int dp])) (v6 : vf_n64 (FP.dadd ws x)) : sh_M md_Sync_addWaited [.ref q, .double x] (n, h) (.inl (none, (n, (sh_up h q (false, 4, [.int kd, .ref wt, .double (FP.dadd ws x), .int (wc + 1), va_rf ow, .int dp]))))) := by
  refine sh_aload_n dc_Sync_addWaited_0 rfl rfl ?_
  refine sh_aload_n dc_Sync_addWaited_1 rfl rfl ?_
  refine sh_get (k := 2) dc_Sync_addWaited_2 f_q rfl (by decide) fl_Sync_49 rfl ?_
  refine sh_dload_n dc_Sync_addWaited_5 rfl rfl ?_
  refine sh_dadd dc_Sync_addWaited_6 v6 ?_
  refine sh_put (k := 2) dc_Sync_addWaited_7 f_q rfl (by decide) fl_Sync_49 rfl pd_D rfl rfl ?_
  show sh_V _ _ (n, (sh_up h q (false, 4, [.int kd, .ref wt, .double (FP.dadd ws x), .int wc, va_rf ow, .int dp]))) _ _ _
  have f_q_1 : (sh_up h q (false, 4, [.int kd, .ref wt, .double (FP.dadd ws x), .int wc, va_rf ow, .int dp])) q = some (false, 4, [.int kd, .ref wt, .double (FP.dadd ws x), .int wc, va_rf ow, .int dp]) := sh_up_eq _ _ _
  refine sh_aload_n dc_Sync_addWaited_10 rfl rfl ?_
  refine sh_dup dc_Sync_addWaited_11 rfl ?_
  refine sh_get (k := 3) dc_Sync_addWaited_12 f_q_1 rfl (by decide) fl_Sync_52 rfl ?_
  refine sh_iconst (v := 1) dc_Sync_addWaited_15 (by decide) ?_
  refine sh_iadd dc_Sync_addWaited_16 ?_
  refine sh_put (k := 3) dc_Sync_addWaited_17 f_q_1 rfl (by decide) fl_Sync_52 rfl pd_I rfl rfl ?_
  refine sh_Vh (sh_up_up _ _ _ _) ?_
  show sh_V _ _ (n, (sh_up h q (false, 4, [.int kd, .ref wt, .double (FP.dadd ws x), .int (wc + 1), va_rf ow, .int dp]))) _ _ _
  have f_q_2 : (sh_up h q (false, 4, [.int kd, .ref wt, .double (FP.dadd ws x), .int (wc + 1), va_rf ow, .int dp])) q = some (false, 4, [.int kd, .ref wt, .double (FP.dadd ws x), .int (wc + 1), va_rf ow, .int dp]) := sh_up_eq _ _ _
  exact sh_return dc_Sync_addWaited_20 rfl (by decide) (by decide)
theorem pt_Sync_addWaited_Semaphore_1 {n : Nat} {h : sh_Hp} {q : Nat} {x : UInt64} {kd : Int32} {wt : Nat} {ws : UInt64} {wc : Int32} {pm : Int32} (f_q : h q = some (false, 5, [.int kd, .ref wt, .double ws, .int wc, .int pm])) (v6 : vf_n64 (FP.dadd ws x)) : sh_M md_Sync_addWaited [.ref q, .double x] (n, h) (.inl (none, (n, (sh_up h q (false, 5, [.int kd, .ref wt, .double (FP.dadd ws x), .int (wc + 1), .int pm]))))) := by
  refine sh_aload_n dc_Sync_addWaited_0 rfl rfl ?_
  refine sh_aload_n dc_Sync_addWaited_1 rfl rfl ?_
  refine sh_get (k := 2) dc_Sync_addWaited_2 f_q rfl (by decide) fl_Sync_49 rfl ?_
  refine sh_dload_n dc_Sync_addWaited_5 rfl rfl ?_
  refine sh_dadd dc_Sync_addWaited_6 v6 ?_
  refine sh_put (k := 2) dc_Sync_addWaited_7 f_q rfl (by decide) fl_Sync_49 rfl pd_D rfl rfl ?_
  show sh_V _ _ (n, (sh_up h q (false, 5, [.int kd, .ref wt, .double (FP.dadd ws x), .int wc, .int pm]))) _ _ _
  have f_q_1 : (sh_up h q (false, 5, [.int kd, .ref wt, .double (FP.dadd ws x), .int wc, .int pm])) q = some (false, 5, [.int kd, .ref wt, .double (FP.dadd ws x), .int wc, .int pm]) := sh_up_eq _ _ _
  refine sh_aload_n dc_Sync_addWaited_10 rfl rfl ?_
  refine sh_dup dc_Sync_addWaited_11 rfl ?_
  refine sh_get (k := 3) dc_Sync_addWaited_12 f_q_1 rfl (by decide) fl_Sync_52 rfl ?_
  refine sh_iconst (v := 1) dc_Sync_addWaited_15 (by decide) ?_
  refine sh_iadd dc_Sync_addWaited_16 ?_
  refine sh_put (k := 3) dc_Sync_addWaited_17 f_q_1 rfl (by decide) fl_Sync_52 rfl pd_I rfl rfl ?_
  refine sh_Vh (sh_up_up _ _ _ _) ?_
  show sh_V _ _ (n, (sh_up h q (false, 5, [.int kd, .ref wt, .double (FP.dadd ws x), .int (wc + 1), .int pm]))) _ _ _
  have f_q_2 : (sh_up h q (false, 5, [.int kd, .ref wt, .double (FP.dadd ws x), .int (wc + 1), .int pm])) q = some (false, 5, [.int kd, .ref wt, .double (FP.dadd ws x), .int (wc + 1), .int pm]) := sh_up_eq _ _ _
  exact sh_return dc_Sync_addWaited_20 rfl (by decide) (by decide)
theorem pt_Sync_addWaited_Latch_1 {n : Nat} {h : sh_Hp} {q : Nat} {x : UInt64} {kd : Int32} {wt : Nat} {ws : UInt64} {wc : Int32} {pm : Int32} (f_q : h q = some (false, 6, [.int kd, .ref wt, .double ws, .int wc, .int pm])) (v6 : vf_n64 (FP.dadd ws x)) : sh_M md_Sync_addWaited [.ref q, .double x] (n, h) (.inl (none, (n, (sh_up h q (false, 6, [.int kd, .ref wt, .double (FP.dadd ws x), .int (wc + 1), .int pm]))))) := by
  refine sh_aload_n dc_Sync_addWaited_0 rfl rfl ?_
  refine sh_aload_n dc_Sync_addWaited_1 rfl rfl ?_
  refine sh_get (k := 2) dc_Sync_addWaited_2 f_q rfl (by decide) fl_Sync_49 rfl ?_
  refine sh_dload_n dc_Sync_addWaited_5 rfl rfl ?_
  refine sh_dadd dc_Sync_addWaited_6 v6 ?_
  refine sh_put (k := 2) dc_Sync_addWaited_7 f_q rfl (by decide) fl_Sync_49 rfl pd_D rfl rfl ?_
  show sh_V _ _ (n, (sh_up h q (false, 6, [.int kd, .ref wt, .double (FP.dadd ws x), .int wc, .int pm]))) _ _ _
  have f_q_1 : (sh_up h q (false, 6, [.int kd, .ref wt, .double (FP.dadd ws x), .int wc, .int pm])) q = some (false, 6, [.int kd, .ref wt, .double (FP.dadd ws x), .int wc, .int pm]) := sh_up_eq _ _ _
  refine sh_aload_n dc_Sync_addWaited_10 rfl rfl ?_
  refine sh_dup dc_Sync_addWaited_11 rfl ?_
  refine sh_get (k := 3) dc_Sync_addWaited_12 f_q_1 rfl (by decide) fl_Sync_52 rfl ?_
  refine sh_iconst (v := 1) dc_Sync_addWaited_15 (by decide) ?_
  refine sh_iadd dc_Sync_addWaited_16 ?_
  refine sh_put (k := 3) dc_Sync_addWaited_17 f_q_1 rfl (by decide) fl_Sync_52 rfl pd_I rfl rfl ?_
  refine sh_Vh (sh_up_up _ _ _ _) ?_
  show sh_V _ _ (n, (sh_up h q (false, 6, [.int kd, .ref wt, .double (FP.dadd ws x), .int (wc + 1), .int pm]))) _ _ _
  have f_q_2 : (sh_up h q (false, 6, [.int kd, .ref wt, .double (FP.dadd ws x), .int (wc + 1), .int pm])) q = some (false, 6, [.int kd, .ref wt, .double (FP.dadd ws x), .int (wc + 1), .int pm]) := sh_up_eq _ _ _
  exact sh_return dc_Sync_addWaited_20 rfl (by decide) (by decide)
