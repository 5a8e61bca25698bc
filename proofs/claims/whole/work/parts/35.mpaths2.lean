theorem sh_mstk {mq : Nat} {A : Nat → Nat} {d : sh_Md} {pc : Nat} {lv : List (Nat × Value)} {st st' : List Value} {I I' : sh_II} {D D' : sh_DD} {cs ss : Nat} {v : Option Value} (e : st = st') (k : sh_mW mq A d (pc, lv, st') I D cs ss v I' D') : sh_mW mq A d (pc, lv, st) I D cs ss v I' D' := by rw [e]; exact k
theorem mb_Mod_ordered_p_0_1 {mq : Nat} {A : Nat → Nat} {I : sh_II} {D : sh_DD} {t : Nat} {s : Nat} (ht : t < 6) (hs : s < 8) (c0_4 : (I 24 0) = 0) : sh_mW mq A md_Mod_ordered (0, [(0, .ref mq), (1, .int (nI t)), (2, .int (nI s))], []) I D 0 0 (some (.int 1)) I D := by
  refine sh_mp (fun w Z k => sh_aload_n dc_Mod_ordered_0 rfl rfl k) ?_
  refine sh_mget 24 dc_Mod_ordered_1 (by decide) fl_Mod_125 rfl rfl rfl rfl ?_
  refine sh_mp (fun w Z k => sh_if_eq (tgt := 25) dc_Mod_ordered_4 (by decide) (fun _ => k) (fun z => absurd c0_4 z)) ?_
  refine sh_mp (fun w Z k => sh_iconst (v := 1) dc_Mod_ordered_25 (by decide) k) ?_
  exact sh_me (fun w => sh_ireturn dc_Mod_ordered_26 rfl rfl (by decide) (by decide))
theorem mb_Mod_ordered_p_0_2 {mq : Nat} {A : Nat → Nat} {I : sh_II} {D : sh_DD} {t : Nat} {s : Nat} (ht : t < 6) (hs : s < 8) (c0_4 : ¬ (I 24 0) = 0) (c1_9 : (I 12 s) = 0) (c2_22 : (I 13 s) = (nI t)) : sh_mW mq A md_Mod_ordered (0, [(0, .ref mq), (1, .int (nI t)), (2, .int (nI s))], []) I D 0 0 (some (.int 1)) I D := by
  refine sh_mp (fun w Z k => sh_aload_n dc_Mod_ordered_0 rfl rfl k) ?_
  refine sh_mget 24 dc_Mod_ordered_1 (by decide) fl_Mod_125 rfl rfl rfl rfl ?_
  refine sh_mp (fun w Z k => sh_if_eq (tgt := 25) dc_Mod_ordered_4 (by decide) (fun z => absurd z c0_4) (fun _ => k)) ?_
  refine sh_mp (fun w Z k => sh_aload_n dc_Mod_ordered_7 rfl rfl k) ?_
  refine sh_mp (fun w Z k => sh_iload_n dc_Mod_ordered_8 rfl rfl k) ?_
  refine sh_mcall (As := [.int (nI s)]) (fun w hw => by obtain ⟨fs, hw⟩ := hw; exact sh_virt dc_Mod_ordered_9 lm_Mod_isLock ln_Mod_128 wd_988 wd_35 rfl rfl (Nat.le_of_ble_eq_true rfl) hw rfl) (mx_Mod_isLock_1 (s := s) (by omega) c1_9) ⟨(Nat.le_of_ble_eq_true rfl), (Nat.le_of_ble_eq_true rfl), (Nat.le_of_ble_eq_true rfl), (Nat.le_of_ble_eq_true rfl)⟩ ?_
  show sh_mW _ _ _ (_, _, [.int 1]) I D _ _ _ _ _
  refine sh_mp (fun w Z k => sh_if_eq (tgt := 25) dc_Mod_ordered_12 (by decide) (fun z => absurd z (by decide)) (fun _ => k)) ?_
  refine sh_mp (fun w Z k => sh_aload_n dc_Mod_ordered_15 rfl rfl k) ?_
  refine sh_mget 13 dc_Mod_ordered_16 (by decide) fl_Mod_45 rfl rfl rfl rfl ?_
  refine sh_mp (fun w Z k => sh_iload_n dc_Mod_ordered_19 rfl rfl k) ?_
  refine sh_miald 13 (l := 8) (k := s) dc_Mod_ordered_20 (by decide) rfl (by omega) (by decide) ?_
  refine sh_mp (fun w Z k => sh_iload_n dc_Mod_ordered_21 rfl rfl k) ?_
  refine sh_mp (fun w Z k => sh_icmp_ne (tgt := 27) dc_Mod_ordered_22 (by decide) (fun z => absurd c2_22 z) (fun _ => k)) ?_
  refine sh_mp (fun w Z k => sh_iconst (v := 1) dc_Mod_ordered_25 (by decide) k) ?_
  exact sh_me (fun w => sh_ireturn dc_Mod_ordered_26 rfl rfl (by decide) (by decide))
theorem mb_Mod_ordered_p_0_3 {mq : Nat} {A : Nat → Nat} {I I9 : sh_II} {D D9 : sh_DD} {v9 : Option Value} {t : Nat} {s : Nat} (ht : t < 6) (hs : s < 8) (c0_4 : ¬ (I 24 0) = 0) (c1_9 : (I 12 s) = 0) (c2_22 : ¬ (I 13 s) = (nI t)) (k9 : sh_mW mq A md_Mod_ordered (32, [(0, .ref mq), (1, .int (nI t)), (2, .int (nI s)), (3, .int 0), (4, .int 0)], []) I D 0 0 v9 I9 D9) : sh_mW mq A md_Mod_ordered (0, [(0, .ref mq), (1, .int (nI t)), (2, .int (nI s))], []) I D 0 0 v9 I9 D9 := by
  refine sh_mp (fun w Z k => sh_aload_n dc_Mod_ordered_0 rfl rfl k) ?_
  refine sh_mget 24 dc_Mod_ordered_1 (by decide) fl_Mod_125 rfl rfl rfl rfl ?_
  refine sh_mp (fun w Z k => sh_if_eq (tgt := 25) dc_Mod_ordered_4 (by decide) (fun z => absurd z c0_4) (fun _ => k)) ?_
  refine sh_mp (fun w Z k => sh_aload_n dc_Mod_ordered_7 rfl rfl k) ?_
  refine sh_mp (fun w Z k => sh_iload_n dc_Mod_ordered_8 rfl rfl k) ?_
  refine sh_mcall (As := [.int (nI s)]) (fun w hw => by obtain ⟨fs, hw⟩ := hw; exact sh_virt dc_Mod_ordered_9 lm_Mod_isLock ln_Mod_128 wd_988 wd_35 rfl rfl (Nat.le_of_ble_eq_true rfl) hw rfl) (mx_Mod_isLock_1 (s := s) (by omega) c1_9) ⟨(Nat.le_of_ble_eq_true rfl), (Nat.le_of_ble_eq_true rfl), (Nat.le_of_ble_eq_true rfl), (Nat.le_of_ble_eq_true rfl)⟩ ?_
  show sh_mW _ _ _ (_, _, [.int 1]) I D _ _ _ _ _
  refine sh_mp (fun w Z k => sh_if_eq (tgt := 25) dc_Mod_ordered_12 (by decide) (fun z => absurd z (by decide)) (fun _ => k)) ?_
  refine sh_mp (fun w Z k => sh_aload_n dc_Mod_ordered_15 rfl rfl k) ?_
  refine sh_mget 13 dc_Mod_ordered_16 (by decide) fl_Mod_45 rfl rfl rfl rfl ?_
  refine sh_mp (fun w Z k => sh_iload_n dc_Mod_ordered_19 rfl rfl k) ?_
  refine sh_miald 13 (l := 8) (k := s) dc_Mod_ordered_20 (by decide) rfl (by omega) (by decide) ?_
  refine sh_mp (fun w Z k => sh_iload_n dc_Mod_ordered_21 rfl rfl k) ?_
  refine sh_mp (fun w Z k => sh_icmp_ne (tgt := 27) dc_Mod_ordered_22 (by decide) (fun _ => k) (fun z => absurd z c2_22)) ?_
  refine sh_mp (fun w Z k => sh_iconst (v := 0) dc_Mod_ordered_27 (by decide) k) ?_
  refine sh_mp (fun w Z k => sh_istore_n dc_Mod_ordered_28 rfl (by decide) k) ?_
  refine sh_mp (fun w Z k => sh_iconst (v := 0) dc_Mod_ordered_29 (by decide) k) ?_
  refine sh_mp (fun w Z k => sh_istore dc_Mod_ordered_30 (by decide) k) ?_
  refine sh_mlv [2, 3, 4, 1, 0] rfl ?_
  exact k9
theorem mb_Mod_ordered_p_0_4 {mq : Nat} {A : Nat → Nat} {I : sh_II} {D : sh_DD} {t : Nat} {s : Nat} (ht : t < 6) (hs : s < 8) (c0_4 : ¬ (I 24 0) = 0) (c1_9 : ¬ (I 12 s) = 0) (c2_9 : (I 12 s) = 1) (c3_22 : (I 13 s) = (nI t)) : sh_mW mq A md_Mod_ordered (0, [(0, .ref mq), (1, .int (nI t)), (2, .int (nI s))], []) I D 0 0 (some (.int 1)) I D := by
  refine sh_mp (fun w Z k => sh_aload_n dc_Mod_ordered_0 rfl rfl k) ?_
  refine sh_mget 24 dc_Mod_ordered_1 (by decide) fl_Mod_125 rfl rfl rfl rfl ?_
  refine sh_mp (fun w Z k => sh_if_eq (tgt := 25) dc_Mod_ordered_4 (by decide) (fun z => absurd z c0_4) (fun _ => k)) ?_
  refine sh_mp (fun w Z k => sh_aload_n dc_Mod_ordered_7 rfl rfl k) ?_
  refine sh_mp (fun w Z k => sh_iload_n dc_Mod_ordered_8 rfl rfl k) ?_
  refine sh_mcall (As := [.int (nI s)]) (fun w hw => by obtain ⟨fs, hw⟩ := hw; exact sh_virt dc_Mod_ordered_9 lm_Mod_isLock ln_Mod_128 wd_988 wd_35 rfl rfl (Nat.le_of_ble_eq_true rfl) hw rfl) (mx_Mod_isLock_2 (s := s) (by omega) c1_9 c2_9) ⟨(Nat.le_of_ble_eq_true rfl), (Nat.le_of_ble_eq_true rfl), (Nat.le_of_ble_eq_true rfl), (Nat.le_of_ble_eq_true rfl)⟩ ?_
  show sh_mW _ _ _ (_, _, [.int 1]) I D _ _ _ _ _
  refine sh_mp (fun w Z k => sh_if_eq (tgt := 25) dc_Mod_ordered_12 (by decide) (fun z => absurd z (by decide)) (fun _ => k)) ?_
  refine sh_mp (fun w Z k => sh_aload_n dc_Mod_ordered_15 rfl rfl k) ?_
  refine sh_mget 13 dc_Mod_ordered_16 (by decide) fl_Mod_45 rfl rfl rfl rfl ?_
  refine sh_mp (fun w Z k => sh_iload_n dc_Mod_ordered_19 rfl rfl k) ?_
  refine sh_miald 13 (l := 8) (k := s) dc_Mod_ordered_20 (by decide) rfl (by omega) (by decide) ?_
  refine sh_mp (fun w Z k => sh_iload_n dc_Mod_ordered_21 rfl rfl k) ?_
  refine sh_mp (fun w Z k => sh_icmp_ne (tgt := 27) dc_Mod_ordered_22 (by decide) (fun z => absurd c3_22 z) (fun _ => k)) ?_
  refine sh_mp (fun w Z k => sh_iconst (v := 1) dc_Mod_ordered_25 (by decide) k) ?_
  exact sh_me (fun w => sh_ireturn dc_Mod_ordered_26 rfl rfl (by decide) (by decide))
theorem mb_Mod_ordered_p_0_5 {mq : Nat} {A : Nat → Nat} {I I9 : sh_II} {D D9 : sh_DD} {v9 : Option Value} {t : Nat} {s : Nat} (ht : t < 6) (hs : s < 8) (c0_4 : ¬ (I 24 0) = 0) (c1_9 : ¬ (I 12 s) = 0) (c2_9 : (I 12 s) = 1) (c3_22 : ¬ (I 13 s) = (nI t)) (k9 : sh_mW mq A md_Mod_ordered (32, [(0, .ref mq), (1, .int (nI t)), (2, .int (nI s)), (3, .int 0), (4, .int 0)], []) I D 0 0 v9 I9 D9) : sh_mW mq A md_Mod_ordered (0, [(0, .ref mq), (1, .int (nI t)), (2, .int (nI s))], []) I D 0 0 v9 I9 D9 := by
  refine sh_mp (fun w Z k => sh_aload_n dc_Mod_ordered_0 rfl rfl k) ?_
  refine sh_mget 24 dc_Mod_ordered_1 (by decide) fl_Mod_125 rfl rfl rfl rfl ?_
  refine sh_mp (fun w Z k => sh_if_eq (tgt := 25) dc_Mod_ordered_4 (by decide) (fun z => absurd z c0_4) (fun _ => k)) ?_
  refine sh_mp (fun w Z k => sh_aload_n dc_Mod_ordered_7 rfl rfl k) ?_
  refine sh_mp (fun w Z k => sh_iload_n dc_Mod_ordered_8 rfl rfl k) ?_
  refine sh_mcall (As := [.int (nI s)]) (fun w hw => by obtain ⟨fs, hw⟩ := hw; exact sh_virt dc_Mod_ordered_9 lm_Mod_isLock ln_Mod_128 wd_988 wd_35 rfl rfl (Nat.le_of_ble_eq_true rfl) hw rfl) (mx_Mod_isLock_2 (s := s) (by omega) c1_9 c2_9) ⟨(Nat.le_of_ble_eq_true rfl), (Nat.le_of_ble_eq_true rfl), (Nat.le_of_ble_eq_true rfl), (Nat.le_of_ble_eq_true rfl)⟩ ?_
  show sh_mW _ _ _ (_, _, [.int 1]) I D _ _ _ _ _
  refine sh_mp (fun w Z k => sh_if_eq (tgt := 25) dc_Mod_ordered_12 (by decide) (fun z => absurd z (by decide)) (fun _ => k)) ?_
  refine sh_mp (fun w Z k => sh_aload_n dc_Mod_ordered_15 rfl rfl k) ?_
  refine sh_mget 13 dc_Mod_ordered_16 (by decide) fl_Mod_45 rfl rfl rfl rfl ?_
  refine sh_mp (fun w Z k => sh_iload_n dc_Mod_ordered_19 rfl rfl k) ?_
  refine sh_miald 13 (l := 8) (k := s) dc_Mod_ordered_20 (by decide) rfl (by omega) (by decide) ?_
  refine sh_mp (fun w Z k => sh_iload_n dc_Mod_ordered_21 rfl rfl k) ?_
  refine sh_mp (fun w Z k => sh_icmp_ne (tgt := 27) dc_Mod_ordered_22 (by decide) (fun _ => k) (fun z => absurd z c3_22)) ?_
  refine sh_mp (fun w Z k => sh_iconst (v := 0) dc_Mod_ordered_27 (by decide) k) ?_
  refine sh_mp (fun w Z k => sh_istore_n dc_Mod_ordered_28 rfl (by decide) k) ?_
  refine sh_mp (fun w Z k => sh_iconst (v := 0) dc_Mod_ordered_29 (by decide) k) ?_
  refine sh_mp (fun w Z k => sh_istore dc_Mod_ordered_30 (by decide) k) ?_
  refine sh_mlv [2, 3, 4, 1, 0] rfl ?_
  exact k9
theorem mb_Mod_ordered_p_0_6 {mq : Nat} {A : Nat → Nat} {I : sh_II} {D : sh_DD} {t : Nat} {s : Nat} (ht : t < 6) (hs : s < 8) (c0_4 : ¬ (I 24 0) = 0) (c1_9 : ¬ (I 12 s) = 0) (c2_9 : ¬ (I 12 s) = 1) : sh_mW mq A md_Mod_ordered (0, [(0, .ref mq), (1, .int (nI t)), (2, .int (nI s))], []) I D 0 0 (some (.int 1)) I D := by
  refine sh_mp (fun w Z k => sh_aload_n dc_Mod_ordered_0 rfl rfl k) ?_
  refine sh_mget 24 dc_Mod_ordered_1 (by decide) fl_Mod_125 rfl rfl rfl rfl ?_
  refine sh_mp (fun w Z k => sh_if_eq (tgt := 25) dc_Mod_ordered_4 (by decide) (fun z => absurd z c0_4) (fun _ => k)) ?_
  refine sh_mp (fun w Z k => sh_aload_n dc_Mod_ordered_7 rfl rfl k) ?_
  refine sh_mp (fun w Z k => sh_iload_n dc_Mod_ordered_8 rfl rfl k) ?_
  refine sh_mcall (As := [.int (nI s)]) (fun w hw => by obtain ⟨fs, hw⟩ := hw; exact sh_virt dc_Mod_ordered_9 lm_Mod_isLock ln_Mod_128 wd_988 wd_35 rfl rfl (Nat.le_of_ble_eq_true rfl) hw rfl) (mx_Mod_isLock_3 (s := s) (by omega) c1_9 c2_9) ⟨(Nat.le_of_ble_eq_true rfl), (Nat.le_of_ble_eq_true rfl), (Nat.le_of_ble_eq_true rfl), (Nat.le_of_ble_eq_true rfl)⟩ ?_
  show sh_mW _ _ _ (_, _, [.int 0]) I D _ _ _ _ _
  refine sh_mp (fun w Z k => sh_if_eq (tgt := 25) dc_Mod_ordered_12 (by decide) (fun _ => k) (fun z => absurd (by decide) z)) ?_
  refine sh_mp (fun w Z k => sh_iconst (v := 1) dc_Mod_ordered_25 (by decide) k) ?_
  exact sh_me (fun w => sh_ireturn dc_Mod_ordered_26 rfl rfl (by decide) (by decide))
theorem mb_Mod_ordered_e_32_1 {mq : Nat} {A : Nat → Nat} {I I9 : sh_II} {D D9 : sh_DD} {v9 : Option Value} {t : Nat} {s : Nat} {y : Int32} {i : Nat} (ht : t < 6) (hs : s < 8) (hx : 8 ≤ (nI i)) (c0_88 : y = 0) (k9 : sh_mW mq A md_Mod_ordered (118, [(0, .ref mq), (1, .int (nI t)), (2, .int (nI s)), (4, .int 0)], []) I D 0 0 v9 I9 D9) : sh_mW mq A md_Mod_ordered (32, [(0, .ref mq), (1, .int (nI t)), (2, .int (nI s)), (3, .int y), (4, .int (nI i))], []) I D 0 0 v9 I9 D9 := by
  refine sh_mp (fun w Z k => sh_iload dc_Mod_ordered_32 rfl k) ?_
  refine sh_mp (fun w Z k => sh_bipush (v := 8) dc_Mod_ordered_34 (by decide) k) ?_
  refine sh_mp (fun w Z k => sh_icmp_ge (tgt := 87) dc_Mod_ordered_36 (by decide) (fun _ => k) (fun z => absurd hx z)) ?_
  refine sh_mp (fun w Z k => sh_iload_n dc_Mod_ordered_87 rfl rfl k) ?_
  refine sh_mp (fun w Z k => sh_if_eq (tgt := 101) dc_Mod_ordered_88 (by decide) (fun _ => k) (fun z => absurd c0_88 z)) ?_
  refine sh_mp (fun w Z k => sh_iload_n dc_Mod_ordered_101 rfl rfl k) ?_
  refine sh_mp (fun w Z k => sh_if_eq (tgt := 115) dc_Mod_ordered_102 (by decide) (fun _ => k) (fun z => absurd c0_88 z)) ?_
  refine sh_mp (fun w Z k => sh_iconst (v := 0) dc_Mod_ordered_115 (by decide) k) ?_
  refine sh_mp (fun w Z k => sh_istore dc_Mod_ordered_116 (by decide) k) ?_
  refine sh_mlv [1, 2, 3, 0] rfl ?_
  exact k9
theorem mb_Mod_ordered_e_32_2 {mq : Nat} {A : Nat → Nat} {I : sh_II} {D : sh_DD} {t : Nat} {s : Nat} {y : Int32} {i : Nat} (ht : t < 6) (hs : s < 8) (hx : 8 ≤ (nI i)) (c0_88 : ¬ y = 0) (c1_110 : (I 24 0) = 2) : sh_mW mq A md_Mod_ordered (32, [(0, .ref mq), (1, .int (nI t)), (2, .int (nI s)), (3, .int y), (4, .int (nI i))], []) I D 0 0 (some (.int 0)) (sh_u2 I 25 0 ((I 25 0) + 1)) D := by
  refine sh_mp (fun w Z k => sh_iload dc_Mod_ordered_32 rfl k) ?_
  refine sh_mp (fun w Z k => sh_bipush (v := 8) dc_Mod_ordered_34 (by decide) k) ?_
  refine sh_mp (fun w Z k => sh_icmp_ge (tgt := 87) dc_Mod_ordered_36 (by decide) (fun _ => k) (fun z => absurd hx z)) ?_
  refine sh_mp (fun w Z k => sh_iload_n dc_Mod_ordered_87 rfl rfl k) ?_
  refine sh_mp (fun w Z k => sh_if_eq (tgt := 101) dc_Mod_ordered_88 (by decide) (fun z => absurd z c0_88) (fun _ => k)) ?_
  refine sh_mp (fun w Z k => sh_aload_n dc_Mod_ordered_91 rfl rfl k) ?_
  refine sh_mp (fun w Z k => sh_dup dc_Mod_ordered_92 rfl k) ?_
  refine sh_mget 25 dc_Mod_ordered_93 (by decide) fl_Mod_135 rfl rfl rfl rfl ?_
  refine sh_mp (fun w Z k => sh_iconst (v := 1) dc_Mod_ordered_96 (by decide) k) ?_
  refine sh_mp (fun w Z k => sh_iadd dc_Mod_ordered_97 k) ?_
  refine sh_mput 25 dc_Mod_ordered_98 (by decide) fl_Mod_135 rfl ?_
  refine sh_mp (fun w Z k => sh_iload_n dc_Mod_ordered_101 rfl rfl k) ?_
  refine sh_mp (fun w Z k => sh_if_eq (tgt := 115) dc_Mod_ordered_102 (by decide) (fun z => absurd z c0_88) (fun _ => k)) ?_
  refine sh_mp (fun w Z k => sh_aload_n dc_Mod_ordered_105 rfl rfl k) ?_
  refine sh_mget 24 dc_Mod_ordered_106 (by decide) fl_Mod_125 rfl rfl rfl rfl ?_
  refine sh_mti (show (sh_u2 I 25 0 ((I 25 0) + 1)) 24 0 = I 24 0 from (sh_u2_row (by decide) _)) ?_
  refine sh_mp (fun w Z k => sh_iconst (v := 2) dc_Mod_ordered_109 (by decide) k) ?_
  refine sh_mp (fun w Z k => sh_icmp_ne (tgt := 115) dc_Mod_ordered_110 (by decide) (fun z => absurd c1_110 z) (fun _ => k)) ?_
  refine sh_mp (fun w Z k => sh_iconst (v := 0) dc_Mod_ordered_113 (by decide) k) ?_
  exact sh_me (fun w => sh_ireturn dc_Mod_ordered_114 rfl rfl (by decide) (by decide))
theorem mb_Mod_ordered_e_32_3 {mq : Nat} {A : Nat → Nat} {I I9 : sh_II} {D D9 : sh_DD} {v9 : Option Value} {t : Nat} {s : Nat} {y : Int32} {i : Nat} (ht : t < 6) (hs : s < 8) (hx : 8 ≤ (nI i)) (c0_88 : ¬ y = 0) (c1_110 : ¬ (I 24 0) = 2) (k9 : sh_mW mq A md_Mod_ordered (118, [(0, .ref mq), (1, .int (nI t)), (2, .int (nI s)), (4, .int 0)], []) (sh_u2 I 25 0 ((I 25 0) + 1)) D 0 0 v9 I9 D9) : sh_mW mq A md_Mod_ordered (32, [(0, .ref mq), (1, .int (nI t)), (2, .int (nI s)), (3, .int y), (4, .int (nI i))], []) I D 0 0 v9 I9 D9 := by
  refine sh_mp (fun w Z k => sh_iload dc_Mod_ordered_32 rfl k) ?_
  refine sh_mp (fun w Z k => sh_bipush (v := 8) dc_Mod_ordered_34 (by decide) k) ?_
  refine sh_mp (fun w Z k => sh_icmp_ge (tgt := 87) dc_Mod_ordered_36 (by decide) (fun _ => k) (fun z => absurd hx z)) ?_
  refine sh_mp (fun w Z k => sh_iload_n dc_Mod_ordered_87 rfl rfl k) ?_
  refine sh_mp (fun w Z k => sh_if_eq (tgt := 101) dc_Mod_ordered_88 (by decide) (fun z => absurd z c0_88) (fun _ => k)) ?_
  refine sh_mp (fun w Z k => sh_aload_n dc_Mod_ordered_91 rfl rfl k) ?_
  refine sh_mp (fun w Z k => sh_dup dc_Mod_ordered_92 rfl k) ?_
  refine sh_mget 25 dc_Mod_ordered_93 (by decide) fl_Mod_135 rfl rfl rfl rfl ?_
  refine sh_mp (fun w Z k => sh_iconst (v := 1) dc_Mod_ordered_96 (by decide) k) ?_
  refine sh_mp (fun w Z k => sh_iadd dc_Mod_ordered_97 k) ?_
  refine sh_mput 25 dc_Mod_ordered_98 (by decide) fl_Mod_135 rfl ?_
  refine sh_mp (fun w Z k => sh_iload_n dc_Mod_ordered_101 rfl rfl k) ?_
  refine sh_mp (fun w Z k => sh_if_eq (tgt := 115) dc_Mod_ordered_102 (by decide) (fun z => absurd z c0_88) (fun _ => k)) ?_
  refine sh_mp (fun w Z k => sh_aload_n dc_Mod_ordered_105 rfl rfl k) ?_
  refine sh_mget 24 dc_Mod_ordered_106 (by decide) fl_Mod_125 rfl rfl rfl rfl ?_
  refine sh_mti (show (sh_u2 I 25 0 ((I 25 0) + 1)) 24 0 = I 24 0 from (sh_u2_row (by decide) _)) ?_
  refine sh_mp (fun w Z k => sh_iconst (v := 2) dc_Mod_ordered_109 (by decide) k) ?_
  refine sh_mp (fun w Z k => sh_icmp_ne (tgt := 115) dc_Mod_ordered_110 (by decide) (fun _ => k) (fun z => absurd z c1_110)) ?_
  refine sh_mp (fun w Z k => sh_iconst (v := 0) dc_Mod_ordered_115 (by decide) k) ?_
  refine sh_mp (fun w Z k => sh_istore dc_Mod_ordered_116 (by decide) k) ?_
  refine sh_mlv [1, 2, 3, 0] rfl ?_
  exact k9
theorem mb_Mod_ordered_32_1 {mq : Nat} {A : Nat → Nat} {I I9 : sh_II} {D D9 : sh_DD} {v9 : Option Value} {t : Nat} {s : Nat} {y : Int32} {i : Nat} (ht : t < 6) (hs : s < 8) (hi : i < 8) (hx : ¬ 8 ≤ (nI i)) (h22 : ∀ v, v < 64 → I 22 v = 0 ∨ I 22 v = 1) (c0_46 : (I 12 i) < 0) (k9 : sh_mW mq A md_Mod_ordered (32, [(0, .ref mq), (1, .int (nI t)), (2, .int (nI s)), (3, .int y), (4, .int (nI (i + 1)))], []) I D 0 0 v9 I9 D9) : sh_mW mq A md_Mod_ordered (32, [(0, .ref mq), (1, .int (nI t)), (2, .int (nI s)), (3, .int y), (4, .int (nI i))], []) I D 0 0 v9 I9 D9 := by
  refine sh_mp (fun w Z k => sh_iload dc_Mod_ordered_32 rfl k) ?_
  refine sh_mp (fun w Z k => sh_bipush (v := 8) dc_Mod_ordered_34 (by decide) k) ?_
  refine sh_mp (fun w Z k => sh_icmp_ge (tgt := 87) dc_Mod_ordered_36 (by decide) (fun z => absurd z hx) (fun _ => k)) ?_
  refine sh_mp (fun w Z k => sh_aload_n dc_Mod_ordered_39 rfl rfl k) ?_
  refine sh_mget 12 dc_Mod_ordered_40 (by decide) fl_Mod_42 rfl rfl rfl rfl ?_
  refine sh_mp (fun w Z k => sh_iload dc_Mod_ordered_43 rfl k) ?_
  refine sh_miald 12 (l := 8) (k := i) dc_Mod_ordered_45 (by decide) rfl (by omega) (by decide) ?_
  refine sh_mp (fun w Z k => sh_if_lt (tgt := 81) dc_Mod_ordered_46 (by decide) (fun _ => k) (fun z => absurd c0_46 z)) ?_
  refine sh_mp (fun w Z k => sh_iinc (v := nI (i + 1)) dc_Mod_ordered_81 rfl (sh_nadd rfl (rfl : (1 : Int32) = nI 1)) (by decide) k) ?_
  refine sh_mp (fun w Z k => sh_goto_ (tgt := 32) dc_Mod_ordered_84 (by decide) k) ?_
  refine sh_mlv [1, 2, 3, 4, 0] rfl ?_
  exact k9
theorem mb_Mod_ordered_32_2 {mq : Nat} {A : Nat → Nat} {I I9 : sh_II} {D D9 : sh_DD} {v9 : Option Value} {t : Nat} {s : Nat} {y : Int32} {i : Nat} (ht : t < 6) (hs : s < 8) (hi : i < 8) (hx : ¬ 8 ≤ (nI i)) (h22 : ∀ v, v < 64 → I 22 v = 0 ∨ I 22 v = 1) (c0_46 : ¬ (I 12 i) < 0) (c1_52 : (I 12 i) = 0) (c2_66 : (I 13 i) = (nI t)) (c3_76 : (sp_ld I s 23 i) = 0) (k9 : sh_mW mq A md_Mod_ordered (32, [(0, .ref mq), (1, .int (nI t)), (2, .int (nI s)), (3, .int y), (4, .int (nI (i + 1)))], []) (sp_ld I s) D 0 0 v9 I9 D9) : sh_mW mq A md_Mod_ordered (32, [(0, .ref mq), (1, .int (nI t)), (2, .int (nI s)), (3, .int y), (4, .int (nI i))], []) I D 0 0 v9 I9 D9 := by
  refine sh_mp (fun w Z k => sh_iload dc_Mod_ordered_32 rfl k) ?_
  refine sh_mp (fun w Z k => sh_bipush (v := 8) dc_Mod_ordered_34 (by decide) k) ?_
  refine sh_mp (fun w Z k => sh_icmp_ge (tgt := 87) dc_Mod_ordered_36 (by decide) (fun z => absurd z hx) (fun _ => k)) ?_
  refine sh_mp (fun w Z k => sh_aload_n dc_Mod_ordered_39 rfl rfl k) ?_
  refine sh_mget 12 dc_Mod_ordered_40 (by decide) fl_Mod_42 rfl rfl rfl rfl ?_
  refine sh_mp (fun w Z k => sh_iload dc_Mod_ordered_43 rfl k) ?_
  refine sh_miald 12 (l := 8) (k := i) dc_Mod_ordered_45 (by decide) rfl (by omega) (by decide) ?_
  refine sh_mp (fun w Z k => sh_if_lt (tgt := 81) dc_Mod_ordered_46 (by decide) (fun z => absurd z c0_46) (fun _ => k)) ?_
  refine sh_mp (fun w Z k => sh_aload_n dc_Mod_ordered_49 rfl rfl k) ?_
  refine sh_mp (fun w Z k => sh_iload dc_Mod_ordered_50 rfl k) ?_
  refine sh_mcall (As := [.int (nI i)]) (fun w hw => by obtain ⟨fs, hw⟩ := hw; exact sh_virt dc_Mod_ordered_52 lm_Mod_isLock ln_Mod_128 wd_988 wd_35 rfl rfl (Nat.le_of_ble_eq_true rfl) hw rfl) (mx_Mod_isLock_1 (s := i) (by omega) c1_52) ⟨(Nat.le_of_ble_eq_true rfl), (Nat.le_of_ble_eq_true rfl), (Nat.le_of_ble_eq_true rfl), (Nat.le_of_ble_eq_true rfl)⟩ ?_
  show sh_mW _ _ _ (_, _, [.int 1]) I D _ _ _ _ _
  refine sh_mp (fun w Z k => sh_if_eq (tgt := 81) dc_Mod_ordered_55 (by decide) (fun z => absurd z (by decide)) (fun _ => k)) ?_
  refine sh_mp (fun w Z k => sh_aload_n dc_Mod_ordered_58 rfl rfl k) ?_
  refine sh_mget 13 dc_Mod_ordered_59 (by decide) fl_Mod_45 rfl rfl rfl rfl ?_
  refine sh_mp (fun w Z k => sh_iload dc_Mod_ordered_62 rfl k) ?_
  refine sh_miald 13 (l := 8) (k := i) dc_Mod_ordered_64 (by decide) rfl (by omega) (by decide) ?_
  refine sh_mp (fun w Z k => sh_iload_n dc_Mod_ordered_65 rfl rfl k) ?_
  refine sh_mp (fun w Z k => sh_icmp_ne (tgt := 81) dc_Mod_ordered_66 (by decide) (fun z => absurd c2_66 z) (fun _ => k)) ?_
  refine sh_mp (fun w Z k => sh_aload_n dc_Mod_ordered_69 rfl rfl k) ?_
  refine sh_mp (fun w Z k => sh_iload_n dc_Mod_ordered_70 rfl rfl k) ?_
  refine sh_mp (fun w Z k => sh_iload dc_Mod_ordered_71 rfl k) ?_
  refine sh_mcall (As := [.int (nI s), .int (nI i)]) (fun w hw => by obtain ⟨fs, hw⟩ := hw; exact sh_virt dc_Mod_ordered_73 lm_Mod_leads ln_Mod_132 wd_992 wd_36 rfl rfl (Nat.le_of_ble_eq_true rfl) hw rfl) (ml_leads (a := s) (b := i) (by omega) (by omega) h22) ⟨(Nat.le_of_ble_eq_true rfl), (Nat.le_of_ble_eq_true rfl), (Nat.le_of_ble_eq_true rfl), (Nat.le_of_ble_eq_true rfl)⟩ ?_
  show sh_mW _ _ _ (_, _, [.int (sp_ld I s 23 i)]) (sp_ld I s) D _ _ _ _ _
  refine sh_mp (fun w Z k => sh_if_eq (tgt := 81) dc_Mod_ordered_76 (by decide) (fun _ => k) (fun z => absurd c3_76 z)) ?_
  refine sh_mp (fun w Z k => sh_iinc (v := nI (i + 1)) dc_Mod_ordered_81 rfl (sh_nadd rfl (rfl : (1 : Int32) = nI 1)) (by decide) k) ?_
  refine sh_mp (fun w Z k => sh_goto_ (tgt := 32) dc_Mod_ordered_84 (by decide) k) ?_
  refine sh_mlv [1, 2, 3, 4, 0] rfl ?_
  exact k9
theorem mb_Mod_ordered_32_3 {mq : Nat} {A : Nat → Nat} {I I9 : sh_II} {D D9 : sh_DD} {v9 : Option Value} {t : Nat} {s : Nat} {y : Int32} {i : Nat} (ht : t < 6) (hs : s < 8) (hi : i < 8) (hx : ¬ 8 ≤ (nI i)) (h22 : ∀ v, v < 64 → I 22 v = 0 ∨ I 22 v = 1) (c0_46 : ¬ (I 12 i) < 0) (c1_52 : (I 12 i) = 0) (c2_66 : (I 13 i) = (nI t)) (c3_76 : ¬ (sp_ld I s 23 i) = 0) (k9 : sh_mW mq A md_Mod_ordered (32, [(0, .ref mq), (1, .int (nI t)), (2, .int (nI s)), (3, .int 1), (4, .int (nI (i + 1)))], []) (sp_ld I s) D 0 0 v9 I9 D9) : sh_mW mq A md_Mod_ordered (32, [(0, .ref mq), (1, .int (nI t)), (2, .int (nI s)), (3, .int y), (4, .int (nI i))], []) I D 0 0 v9 I9 D9 := by
  refine sh_mp (fun w Z k => sh_iload dc_Mod_ordered_32 rfl k) ?_
  refine sh_mp (fun w Z k => sh_bipush (v := 8) dc_Mod_ordered_34 (by decide) k) ?_
  refine sh_mp (fun w Z k => sh_icmp_ge (tgt := 87) dc_Mod_ordered_36 (by decide) (fun z => absurd z hx) (fun _ => k)) ?_
  refine sh_mp (fun w Z k => sh_aload_n dc_Mod_ordered_39 rfl rfl k) ?_
  refine sh_mget 12 dc_Mod_ordered_40 (by decide) fl_Mod_42 rfl rfl rfl rfl ?_
  refine sh_mp (fun w Z k => sh_iload dc_Mod_ordered_43 rfl k) ?_
  refine sh_miald 12 (l := 8) (k := i) dc_Mod_ordered_45 (by decide) rfl (by omega) (by decide) ?_
  refine sh_mp (fun w Z k => sh_if_lt (tgt := 81) dc_Mod_ordered_46 (by decide) (fun z => absurd z c0_46) (fun _ => k)) ?_
  refine sh_mp (fun w Z k => sh_aload_n dc_Mod_ordered_49 rfl rfl k) ?_
  refine sh_mp (fun w Z k => sh_iload dc_Mod_ordered_50 rfl k) ?_
  refine sh_mcall (As := [.int (nI i)]) (fun w hw => by obtain ⟨fs, hw⟩ := hw; exact sh_virt dc_Mod_ordered_52 lm_Mod_isLock ln_Mod_128 wd_988 wd_35 rfl rfl (Nat.le_of_ble_eq_true rfl) hw rfl) (mx_Mod_isLock_1 (s := i) (by omega) c1_52) ⟨(Nat.le_of_ble_eq_true rfl), (Nat.le_of_ble_eq_true rfl), (Nat.le_of_ble_eq_true rfl), (Nat.le_of_ble_eq_true rfl)⟩ ?_
  show sh_mW _ _ _ (_, _, [.int 1]) I D _ _ _ _ _
  refine sh_mp (fun w Z k => sh_if_eq (tgt := 81) dc_Mod_ordered_55 (by decide) (fun z => absurd z (by decide)) (fun _ => k)) ?_
  refine sh_mp (fun w Z k => sh_aload_n dc_Mod_ordered_58 rfl rfl k) ?_
  refine sh_mget 13 dc_Mod_ordered_59 (by decide) fl_Mod_45 rfl rfl rfl rfl ?_
  refine sh_mp (fun w Z k => sh_iload dc_Mod_ordered_62 rfl k) ?_
  refine sh_miald 13 (l := 8) (k := i) dc_Mod_ordered_64 (by decide) rfl (by omega) (by decide) ?_
  refine sh_mp (fun w Z k => sh_iload_n dc_Mod_ordered_65 rfl rfl k) ?_
  refine sh_mp (fun w Z k => sh_icmp_ne (tgt := 81) dc_Mod_ordered_66 (by decide) (fun z => absurd c2_66 z) (fun _ => k)) ?_
  refine sh_mp (fun w Z k => sh_aload_n dc_Mod_ordered_69 rfl rfl k) ?_
  refine sh_mp (fun w Z k => sh_iload_n dc_Mod_ordered_70 rfl rfl k) ?_
  refine sh_mp (fun w Z k => sh_iload dc_Mod_ordered_71 rfl k) ?_
  refine sh_mcall (As := [.int (nI s), .int (nI i)]) (fun w hw => by obtain ⟨fs, hw⟩ := hw; exact sh_virt dc_Mod_ordered_73 lm_Mod_leads ln_Mod_132 wd_992 wd_36 rfl rfl (Nat.le_of_ble_eq_true rfl) hw rfl) (ml_leads (a := s) (b := i) (by omega) (by omega) h22) ⟨(Nat.le_of_ble_eq_true rfl), (Nat.le_of_ble_eq_true rfl), (Nat.le_of_ble_eq_true rfl), (Nat.le_of_ble_eq_true rfl)⟩ ?_
  show sh_mW _ _ _ (_, _, [.int (sp_ld I s 23 i)]) (sp_ld I s) D _ _ _ _ _
  refine sh_mp (fun w Z k => sh_if_eq (tgt := 81) dc_Mod_ordered_76 (by decide) (fun z => absurd z c3_76) (fun _ => k)) ?_
  refine sh_mp (fun w Z k => sh_iconst (v := 1) dc_Mod_ordered_79 (by decide) k) ?_
  refine sh_mp (fun w Z k => sh_istore_n dc_Mod_ordered_80 rfl (by decide) k) ?_
  refine sh_mp (fun w Z k => sh_iinc (v := nI (i + 1)) dc_Mod_ordered_81 rfl (sh_nadd rfl (rfl : (1 : Int32) = nI 1)) (by decide) k) ?_
  refine sh_mp (fun w Z k => sh_goto_ (tgt := 32) dc_Mod_ordered_84 (by decide) k) ?_
  refine sh_mlv [2, 3, 4, 1, 0] rfl ?_
  exact k9
theorem mb_Mod_ordered_32_4 {mq : Nat} {A : Nat → Nat} {I I9 : sh_II} {D D9 : sh_DD} {v9 : Option Value} {t : Nat} {s : Nat} {y : Int32} {i : Nat} (ht : t < 6) (hs : s < 8) (hi : i < 8) (hx : ¬ 8 ≤ (nI i)) (h22 : ∀ v, v < 64 → I 22 v = 0 ∨ I 22 v = 1) (c0_46 : ¬ (I 12 i) < 0) (c1_52 : (I 12 i) = 0) (c2_66 : ¬ (I 13 i) = (nI t)) (k9 : sh_mW mq A md_Mod_ordered (32, [(0, .ref mq), (1, .int (nI t)), (2, .int (nI s)), (3, .int y), (4, .int (nI (i + 1)))], []) I D 0 0 v9 I9 D9) : sh_mW mq A md_Mod_ordered (32, [(0, .ref mq), (1, .int (nI t)), (2, .int (nI s)), (3, .int y), (4, .int (nI i))], []) I D 0 0 v9 I9 D9 := by
  refine sh_mp (fun w Z k => sh_iload dc_Mod_ordered_32 rfl k) ?_
  refine sh_mp (fun w Z k => sh_bipush (v := 8) dc_Mod_ordered_34 (by decide) k) ?_
  refine sh_mp (fun w Z k => sh_icmp_ge (tgt := 87) dc_Mod_ordered_36 (by decide) (fun z => absurd z hx) (fun _ => k)) ?_
  refine sh_mp (fun w Z k => sh_aload_n dc_Mod_ordered_39 rfl rfl k) ?_
  refine sh_mget 12 dc_Mod_ordered_40 (by decide) fl_Mod_42 rfl rfl rfl rfl ?_
  refine sh_mp (fun w Z k => sh_iload dc_Mod_ordered_43 rfl k) ?_
  refine sh_miald 12 (l := 8) (k := i) dc_Mod_ordered_45 (by decide) rfl (by omega) (by decide) ?_
  refine sh_mp (fun w Z k => sh_if_lt (tgt := 81) dc_Mod_ordered_46 (by decide) (fun z => absurd z c0_46) (fun _ => k)) ?_
  refine sh_mp (fun w Z k => sh_aload_n dc_Mod_ordered_49 rfl rfl k) ?_
  refine sh_mp (fun w Z k => sh_iload dc_Mod_ordered_50 rfl k) ?_
  refine sh_mcall (As := [.int (nI i)]) (fun w hw => by obtain ⟨fs, hw⟩ := hw; exact sh_virt dc_Mod_ordered_52 lm_Mod_isLock ln_Mod_128 wd_988 wd_35 rfl rfl (Nat.le_of_ble_eq_true rfl) hw rfl) (mx_Mod_isLock_1 (s := i) (by omega) c1_52) ⟨(Nat.le_of_ble_eq_true rfl), (Nat.le_of_ble_eq_true rfl), (Nat.le_of_ble_eq_true rfl), (Nat.le_of_ble_eq_true rfl)⟩ ?_
  show sh_mW _ _ _ (_, _, [.int 1]) I D _ _ _ _ _
  refine sh_mp (fun w Z k => sh_if_eq (tgt := 81) dc_Mod_ordered_55 (by decide) (fun z => absurd z (by decide)) (fun _ => k)) ?_
  refine sh_mp (fun w Z k => sh_aload_n dc_Mod_ordered_58 rfl rfl k) ?_
  refine sh_mget 13 dc_Mod_ordered_59 (by decide) fl_Mod_45 rfl rfl rfl rfl ?_
  refine sh_mp (fun w Z k => sh_iload dc_Mod_ordered_62 rfl k) ?_
  refine sh_miald 13 (l := 8) (k := i) dc_Mod_ordered_64 (by decide) rfl (by omega) (by decide) ?_
  refine sh_mp (fun w Z k => sh_iload_n dc_Mod_ordered_65 rfl rfl k) ?_
  refine sh_mp (fun w Z k => sh_icmp_ne (tgt := 81) dc_Mod_ordered_66 (by decide) (fun _ => k) (fun z => absurd z c2_66)) ?_
  refine sh_mp (fun w Z k => sh_iinc (v := nI (i + 1)) dc_Mod_ordered_81 rfl (sh_nadd rfl (rfl : (1 : Int32) = nI 1)) (by decide) k) ?_
  refine sh_mp (fun w Z k => sh_goto_ (tgt := 32) dc_Mod_ordered_84 (by decide) k) ?_
  refine sh_mlv [1, 2, 3, 4, 0] rfl ?_
  exact k9
theorem mb_Mod_ordered_32_5 {mq : Nat} {A : Nat → Nat} {I I9 : sh_II} {D D9 : sh_DD} {v9 : Option Value} {t : Nat} {s : Nat} {y : Int32} {i : Nat} (ht : t < 6) (hs : s < 8) (hi : i < 8) (hx : ¬ 8 ≤ (nI i)) (h22 : ∀ v, v < 64 → I 22 v = 0 ∨ I 22 v = 1) (c0_46 : ¬ (I 12 i) < 0) (c1_52 : ¬ (I 12 i) = 0) (c2_52 : (I 12 i) = 1) (c3_66 : (I 13 i) = (nI t)) (c4_76 : (sp_ld I s 23 i) = 0) (k9 : sh_mW mq A md_Mod_ordered (32, [(0, .ref mq), (1, .int (nI t)), (2, .int (nI s)), (3, .int y), (4, .int (nI (i + 1)))], []) (sp_ld I s) D 0 0 v9 I9 D9) : sh_mW mq A md_Mod_ordered (32, [(0, .ref mq), (1, .int (nI t)), (2, .int (nI s)), (3, .int y), (4, .int (nI i))], []) I D 0 0 v9 I9 D9 := by
  refine sh_mp (fun w Z k => sh_iload dc_Mod_ordered_32 rfl k) ?_
  refine sh_mp (fun w Z k => sh_bipush (v := 8) dc_Mod_ordered_34 (by decide) k) ?_
  refine sh_mp (fun w Z k => sh_icmp_ge (tgt := 87) dc_Mod_ordered_36 (by decide) (fun z => absurd z hx) (fun _ => k)) ?_
  refine sh_mp (fun w Z k => sh_aload_n dc_Mod_ordered_39 rfl rfl k) ?_
  refine sh_mget 12 dc_Mod_ordered_40 (by decide) fl_Mod_42 rfl rfl rfl rfl ?_
  refine sh_mp (fun w Z k => sh_iload dc_Mod_ordered_43 rfl k) ?_
  refine sh_miald 12 (l := 8) (k := i) dc_Mod_ordered_45 (by decide) rfl (by omega) (by decide) ?_
  refine sh_mp (fun w Z k => sh_if_lt (tgt := 81) dc_Mod_ordered_46 (by decide) (fun z => absurd z c0_46) (fun _ => k)) ?_
  refine sh_mp (fun w Z k => sh_aload_n dc_Mod_ordered_49 rfl rfl k) ?_
  refine sh_mp (fun w Z k => sh_iload dc_Mod_ordered_50 rfl k) ?_
  refine sh_mcall (As := [.int (nI i)]) (fun w hw => by obtain ⟨fs, hw⟩ := hw; exact sh_virt dc_Mod_ordered_52 lm_Mod_isLock ln_Mod_128 wd_988 wd_35 rfl rfl (Nat.le_of_ble_eq_true rfl) hw rfl) (mx_Mod_isLock_2 (s := i) (by omega) c1_52 c2_52) ⟨(Nat.le_of_ble_eq_true rfl), (Nat.le_of_ble_eq_true rfl), (Nat.le_of_ble_eq_true rfl), (Nat.le_of_ble_eq_true rfl)⟩ ?_
  show sh_mW _ _ _ (_, _, [.int 1]) I D _ _ _ _ _
  refine sh_mp (fun w Z k => sh_if_eq (tgt := 81) dc_Mod_ordered_55 (by decide) (fun z => absurd z (by decide)) (fun _ => k)) ?_
  refine sh_mp (fun w Z k => sh_aload_n dc_Mod_ordered_58 rfl rfl k) ?_
  refine sh_mget 13 dc_Mod_ordered_59 (by decide) fl_Mod_45 rfl rfl rfl rfl ?_
  refine sh_mp (fun w Z k => sh_iload dc_Mod_ordered_62 rfl k) ?_
  refine sh_miald 13 (l := 8) (k := i) dc_Mod_ordered_64 (by decide) rfl (by omega) (by decide) ?_
  refine sh_mp (fun w Z k => sh_iload_n dc_Mod_ordered_65 rfl rfl k) ?_
  refine sh_mp (fun w Z k => sh_icmp_ne (tgt := 81) dc_Mod_ordered_66 (by decide) (fun z => absurd c3_66 z) (fun _ => k)) ?_
  refine sh_mp (fun w Z k => sh_aload_n dc_Mod_ordered_69 rfl rfl k) ?_
  refine sh_mp (fun w Z k => sh_iload_n dc_Mod_ordered_70 rfl rfl k) ?_
  refine sh_mp (fun w Z k => sh_iload dc_Mod_ordered_71 rfl k) ?_
  refine sh_mcall (As := [.int (nI s), .int (nI i)]) (fun w hw => by obtain ⟨fs, hw⟩ := hw; exact sh_virt dc_Mod_ordered_73 lm_Mod_leads ln_Mod_132 wd_992 wd_36 rfl rfl (Nat.le_of_ble_eq_true rfl) hw rfl) (ml_leads (a := s) (b := i) (by omega) (by omega) h22) ⟨(Nat.le_of_ble_eq_true rfl), (Nat.le_of_ble_eq_true rfl), (Nat.le_of_ble_eq_true rfl), (Nat.le_of_ble_eq_true rfl)⟩ ?_
  show sh_mW _ _ _ (_, _, [.int (sp_ld I s 23 i)]) (sp_ld I s) D _ _ _ _ _
  refine sh_mp (fun w Z k => sh_if_eq (tgt := 81) dc_Mod_ordered_76 (by decide) (fun _ => k) (fun z => absurd c4_76 z)) ?_
  refine sh_mp (fun w Z k => sh_iinc (v := nI (i + 1)) dc_Mod_ordered_81 rfl (sh_nadd rfl (rfl : (1 : Int32) = nI 1)) (by decide) k) ?_
  refine sh_mp (fun w Z k => sh_goto_ (tgt := 32) dc_Mod_ordered_84 (by decide) k) ?_
  refine sh_mlv [1, 2, 3, 4, 0] rfl ?_
  exact k9
theorem mb_Mod_ordered_32_6 {mq : Nat} {A : Nat → Nat} {I I9 : sh_II} {D D9 : sh_DD} {v9 : Option Value} {t : Nat} {s : Nat} {y : Int32} {i : Nat} (ht : t < 6) (hs : s < 8) (hi : i < 8) (hx : ¬ 8 ≤ (nI i)) (h22 : ∀ v, v < 64 → I 22 v = 0 ∨ I 22 v = 1) (c0_46 : ¬ (I 12 i) < 0) (c1_52 : ¬ (I 12 i) = 0) (c2_52 : (I 12 i) = 1) (c3_66 : (I 13 i) = (nI t)) (c4_76 : ¬ (sp_ld I s 23 i) = 0) (k9 : sh_mW mq A md_Mod_ordered (32, [(0, .ref mq), (1, .int (nI t)), (2, .int (nI s)), (3, .int 1), (4, .int (nI (i + 1)))], []) (sp_ld I s) D 0 0 v9 I9 D9) : sh_mW mq A md_Mod_ordered (32, [(0, .ref mq), (1, .int (nI t)), (2, .int (nI s)), (3, .int y), (4, .int (nI i))], []) I D 0 0 v9 I9 D9 := by
  refine sh_mp (fun w Z k => sh_iload dc_Mod_ordered_32 rfl k) ?_
  refine sh_mp (fun w Z k => sh_bipush (v := 8) dc_Mod_ordered_34 (by decide) k) ?_
  refine sh_mp (fun w Z k => sh_icmp_ge (tgt := 87) dc_Mod_ordered_36 (by decide) (fun z => absurd z hx) (fun _ => k)) ?_
  refine sh_mp (fun w Z k => sh_aload_n dc_Mod_ordered_39 rfl rfl k) ?_
  refine sh_mget 12 dc_Mod_ordered_40 (by decide) fl_Mod_42 rfl rfl rfl rfl ?_
  refine sh_mp (fun w Z k => sh_iload dc_Mod_ordered_43 rfl k) ?_
  refine sh_miald 12 (l := 8) (k := i) dc_Mod_ordered_45 (by decide) rfl (by omega) (by decide) ?_
  refine sh_mp (fun w Z k => sh_if_lt (tgt := 81) dc_Mod_ordered_46 (by decide) (fun z => absurd z c0_46) (fun _ => k)) ?_
  refine sh_mp (fun w Z k => sh_aload_n dc_Mod_ordered_49 rfl rfl k) ?_
  refine sh_mp (fun w Z k => sh_iload dc_Mod_ordered_50 rfl k) ?_
  refine sh_mcall (As := [.int (nI i)]) (fun w hw => by obtain ⟨fs, hw⟩ := hw; exact sh_virt dc_Mod_ordered_52 lm_Mod_isLock ln_Mod_128 wd_988 wd_35 rfl rfl (Nat.le_of_ble_eq_true rfl) hw rfl) (mx_Mod_isLock_2 (s := i) (by omega) c1_52 c2_52) ⟨(Nat.le_of_ble_eq_true rfl), (Nat.le_of_ble_eq_true rfl), (Nat.le_of_ble_eq_true rfl), (Nat.le_of_ble_eq_true rfl)⟩ ?_
  show sh_mW _ _ _ (_, _, [.int 1]) I D _ _ _ _ _
  refine sh_mp (fun w Z k => sh_if_eq (tgt := 81) dc_Mod_ordered_55 (by decide) (fun z => absurd z (by decide)) (fun _ => k)) ?_
  refine sh_mp (fun w Z k => sh_aload_n dc_Mod_ordered_58 rfl rfl k) ?_
  refine sh_mget 13 dc_Mod_ordered_59 (by decide) fl_Mod_45 rfl rfl rfl rfl ?_
  refine sh_mp (fun w Z k => sh_iload dc_Mod_ordered_62 rfl k) ?_
  refine sh_miald 13 (l := 8) (k := i) dc_Mod_ordered_64 (by decide) rfl (by omega) (by decide) ?_
  refine sh_mp (fun w Z k => sh_iload_n dc_Mod_ordered_65 rfl rfl k) ?_
  refine sh_mp (fun w Z k => sh_icmp_ne (tgt := 81) dc_Mod_ordered_66 (by decide) (fun z => absurd c3_66 z) (fun _ => k)) ?_
  refine sh_mp (fun w Z k => sh_aload_n dc_Mod_ordered_69 rfl rfl k) ?_
  refine sh_mp (fun w Z k => sh_iload_n dc_Mod_ordered_70 rfl rfl k) ?_
  refine sh_mp (fun w Z k => sh_iload dc_Mod_ordered_71 rfl k) ?_
  refine sh_mcall (As := [.int (nI s), .int (nI i)]) (fun w hw => by obtain ⟨fs, hw⟩ := hw; exact sh_virt dc_Mod_ordered_73 lm_Mod_leads ln_Mod_132 wd_992 wd_36 rfl rfl (Nat.le_of_ble_eq_true rfl) hw rfl) (ml_leads (a := s) (b := i) (by omega) (by omega) h22) ⟨(Nat.le_of_ble_eq_true rfl), (Nat.le_of_ble_eq_true rfl), (Nat.le_of_ble_eq_true rfl), (Nat.le_of_ble_eq_true rfl)⟩ ?_
  show sh_mW _ _ _ (_, _, [.int (sp_ld I s 23 i)]) (sp_ld I s) D _ _ _ _ _
  refine sh_mp (fun w Z k => sh_if_eq (tgt := 81) dc_Mod_ordered_76 (by decide) (fun z => absurd z c4_76) (fun _ => k)) ?_
  refine sh_mp (fun w Z k => sh_iconst (v := 1) dc_Mod_ordered_79 (by decide) k) ?_
  refine sh_mp (fun w Z k => sh_istore_n dc_Mod_ordered_80 rfl (by decide) k) ?_
  refine sh_mp (fun w Z k => sh_iinc (v := nI (i + 1)) dc_Mod_ordered_81 rfl (sh_nadd rfl (rfl : (1 : Int32) = nI 1)) (by decide) k) ?_
  refine sh_mp (fun w Z k => sh_goto_ (tgt := 32) dc_Mod_ordered_84 (by decide) k) ?_
  refine sh_mlv [2, 3, 4, 1, 0] rfl ?_
  exact k9
theorem mb_Mod_ordered_32_7 {mq : Nat} {A : Nat → Nat} {I I9 : sh_II} {D D9 : sh_DD} {v9 : Option Value} {t : Nat} {s : Nat} {y : Int32} {i : Nat} (ht : t < 6) (hs : s < 8) (hi : i < 8) (hx : ¬ 8 ≤ (nI i)) (h22 : ∀ v, v < 64 → I 22 v = 0 ∨ I 22 v = 1) (c0_46 : ¬ (I 12 i) < 0) (c1_52 : ¬ (I 12 i) = 0) (c2_52 : (I 12 i) = 1) (c3_66 : ¬ (I 13 i) = (nI t)) (k9 : sh_mW mq A md_Mod_ordered (32, [(0, .ref mq), (1, .int (nI t)), (2, .int (nI s)), (3, .int y), (4, .int (nI (i + 1)))], []) I D 0 0 v9 I9 D9) : sh_mW mq A md_Mod_ordered (32, [(0, .ref mq), (1, .int (nI t)), (2, .int (nI s)), (3, .int y), (4, .int (nI i))], []) I D 0 0 v9 I9 D9 := by
  refine sh_mp (fun w Z k => sh_iload dc_Mod_ordered_32 rfl k) ?_
  refine sh_mp (fun w Z k => sh_bipush (v := 8) dc_Mod_ordered_34 (by decide) k) ?_
  refine sh_mp (fun w Z k => sh_icmp_ge (tgt := 87) dc_Mod_ordered_36 (by decide) (fun z => absurd z hx) (fun _ => k)) ?_
  refine sh_mp (fun w Z k => sh_aload_n dc_Mod_ordered_39 rfl rfl k) ?_
  refine sh_mget 12 dc_Mod_ordered_40 (by decide) fl_Mod_42 rfl rfl rfl rfl ?_
  refine sh_mp (fun w Z k => sh_iload dc_Mod_ordered_43 rfl k) ?_
  refine sh_miald 12 (l := 8) (k := i) dc_Mod_ordered_45 (by decide) rfl (by omega) (by decide) ?_
  refine sh_mp (fun w Z k => sh_if_lt (tgt := 81) dc_Mod_ordered_46 (by decide) (fun z => absurd z c0_46) (fun _ => k)) ?_
  refine sh_mp (fun w Z k => sh_aload_n dc_Mod_ordered_49 rfl rfl k) ?_
  refine sh_mp (fun w Z k => sh_iload dc_Mod_ordered_50 rfl k) ?_
  refine sh_mcall (As := [.int (nI i)]) (fun w hw => by obtain ⟨fs, hw⟩ := hw; exact sh_virt dc_Mod_ordered_52 lm_Mod_isLock ln_Mod_128 wd_988 wd_35 rfl rfl (Nat.le_of_ble_eq_true rfl) hw rfl) (mx_Mod_isLock_2 (s := i) (by omega) c1_52 c2_52) ⟨(Nat.le_of_ble_eq_true rfl), (Nat.le_of_ble_eq_true rfl), (Nat.le_of_ble_eq_true rfl), (Nat.le_of_ble_eq_true rfl)⟩ ?_
  show sh_mW _ _ _ (_, _, [.int 1]) I D _ _ _ _ _
  refine sh_mp (fun w Z k => sh_if_eq (tgt := 81) dc_Mod_ordered_55 (by decide) (fun z => absurd z (by decide)) (fun _ => k)) ?_
  refine sh_mp (fun w Z k => sh_aload_n dc_Mod_ordered_58 rfl rfl k) ?_
  refine sh_mget 13 dc_Mod_ordered_59 (by decide) fl_Mod_45 rfl rfl rfl rfl ?_
  refine sh_mp (fun w Z k => sh_iload dc_Mod_ordered_62 rfl k) ?_
  refine sh_miald 13 (l := 8) (k := i) dc_Mod_ordered_64 (by decide) rfl (by omega) (by decide) ?_
  refine sh_mp (fun w Z k => sh_iload_n dc_Mod_ordered_65 rfl rfl k) ?_
  refine sh_mp (fun w Z k => sh_icmp_ne (tgt := 81) dc_Mod_ordered_66 (by decide) (fun _ => k) (fun z => absurd z c3_66)) ?_
  refine sh_mp (fun w Z k => sh_iinc (v := nI (i + 1)) dc_Mod_ordered_81 rfl (sh_nadd rfl (rfl : (1 : Int32) = nI 1)) (by decide) k) ?_
  refine sh_mp (fun w Z k => sh_goto_ (tgt := 32) dc_Mod_ordered_84 (by decide) k) ?_
  refine sh_mlv [1, 2, 3, 4, 0] rfl ?_
  exact k9
theorem mb_Mod_ordered_32_8 {mq : Nat} {A : Nat → Nat} {I I9 : sh_II} {D D9 : sh_DD} {v9 : Option Value} {t : Nat} {s : Nat} {y : Int32} {i : Nat} (ht : t < 6) (hs : s < 8) (hi : i < 8) (hx : ¬ 8 ≤ (nI i)) (h22 : ∀ v, v < 64 → I 22 v = 0 ∨ I 22 v = 1) (c0_46 : ¬ (I 12 i) < 0) (c1_52 : ¬ (I 12 i) = 0) (c2_52 : ¬ (I 12 i) = 1) (k9 : sh_mW mq A md_Mod_ordered (32, [(0, .ref mq), (1, .int (nI t)), (2, .int (nI s)), (3, .int y), (4, .int (nI (i + 1)))], []) I D 0 0 v9 I9 D9) : sh_mW mq A md_Mod_ordered (32, [(0, .ref mq), (1, .int (nI t)), (2, .int (nI s)), (3, .int y), (4, .int (nI i))], []) I D 0 0 v9 I9 D9 := by
  refine sh_mp (fun w Z k => sh_iload dc_Mod_ordered_32 rfl k) ?_
  refine sh_mp (fun w Z k => sh_bipush (v := 8) dc_Mod_ordered_34 (by decide) k) ?_
  refine sh_mp (fun w Z k => sh_icmp_ge (tgt := 87) dc_Mod_ordered_36 (by decide) (fun z => absurd z hx) (fun _ => k)) ?_
  refine sh_mp (fun w Z k => sh_aload_n dc_Mod_ordered_39 rfl rfl k) ?_
  refine sh_mget 12 dc_Mod_ordered_40 (by decide) fl_Mod_42 rfl rfl rfl rfl ?_
  refine sh_mp (fun w Z k => sh_iload dc_Mod_ordered_43 rfl k) ?_
  refine sh_miald 12 (l := 8) (k := i) dc_Mod_ordered_45 (by decide) rfl (by omega) (by decide) ?_
  refine sh_mp (fun w Z k => sh_if_lt (tgt := 81) dc_Mod_ordered_46 (by decide) (fun z => absurd z c0_46) (fun _ => k)) ?_
  refine sh_mp (fun w Z k => sh_aload_n dc_Mod_ordered_49 rfl rfl k) ?_
  refine sh_mp (fun w Z k => sh_iload dc_Mod_ordered_50 rfl k) ?_
  refine sh_mcall (As := [.int (nI i)]) (fun w hw => by obtain ⟨fs, hw⟩ := hw; exact sh_virt dc_Mod_ordered_52 lm_Mod_isLock ln_Mod_128 wd_988 wd_35 rfl rfl (Nat.le_of_ble_eq_true rfl) hw rfl) (mx_Mod_isLock_3 (s := i) (by omega) c1_52 c2_52) ⟨(Nat.le_of_ble_eq_true rfl), (Nat.le_of_ble_eq_true rfl), (Nat.le_of_ble_eq_true rfl), (Nat.le_of_ble_eq_true rfl)⟩ ?_
  show sh_mW _ _ _ (_, _, [.int 0]) I D _ _ _ _ _
  refine sh_mp (fun w Z k => sh_if_eq (tgt := 81) dc_Mod_ordered_55 (by decide) (fun _ => k) (fun z => absurd (by decide) z)) ?_
  refine sh_mp (fun w Z k => sh_iinc (v := nI (i + 1)) dc_Mod_ordered_81 rfl (sh_nadd rfl (rfl : (1 : Int32) = nI 1)) (by decide) k) ?_
  refine sh_mp (fun w Z k => sh_goto_ (tgt := 32) dc_Mod_ordered_84 (by decide) k) ?_
  refine sh_mlv [1, 2, 3, 4, 0] rfl ?_
  exact k9
theorem mb_Mod_ordered_e_118_1 {mq : Nat} {A : Nat → Nat} {I : sh_II} {D : sh_DD} {t : Nat} {s : Nat} {i : Nat} (ht : t < 6) (hs : s < 8) (hx : 8 ≤ (nI i)) : sh_mW mq A md_Mod_ordered (118, [(0, .ref mq), (1, .int (nI t)), (2, .int (nI s)), (4, .int (nI i))], []) I D 0 0 (some (.int 1)) I D := by
  refine sh_mp (fun w Z k => sh_iload dc_Mod_ordered_118 rfl k) ?_
  refine sh_mp (fun w Z k => sh_bipush (v := 8) dc_Mod_ordered_120 (by decide) k) ?_
  refine sh_mp (fun w Z k => sh_icmp_ge (tgt := 174) dc_Mod_ordered_122 (by decide) (fun _ => k) (fun z => absurd hx z)) ?_
  refine sh_mp (fun w Z k => sh_iconst (v := 1) dc_Mod_ordered_174 (by decide) k) ?_
  exact sh_me (fun w => sh_ireturn dc_Mod_ordered_175 rfl rfl (by decide) (by decide))
theorem mb_Mod_ordered_118_1 {mq : Nat} {A : Nat → Nat} {I I9 : sh_II} {D D9 : sh_DD} {v9 : Option Value} {t : Nat} {s : Nat} {i : Nat} (ht : t < 6) (hs : s < 8) (hi : i < 8) (hx : ¬ 8 ≤ (nI i)) (c0_132 : (I 12 i) < 0) (k9 : sh_mW mq A md_Mod_ordered (118, [(0, .ref mq), (1, .int (nI t)), (2, .int (nI s)), (4, .int (nI (i + 1)))], []) I D 0 0 v9 I9 D9) : sh_mW mq A md_Mod_ordered (118, [(0, .ref mq), (1, .int (nI t)), (2, .int (nI s)), (4, .int (nI i))], []) I D 0 0 v9 I9 D9 := by
  refine sh_mp (fun w Z k => sh_iload dc_Mod_ordered_118 rfl k) ?_
  refine sh_mp (fun w Z k => sh_bipush (v := 8) dc_Mod_ordered_120 (by decide) k) ?_
  refine sh_mp (fun w Z k => sh_icmp_ge (tgt := 174) dc_Mod_ordered_122 (by decide) (fun z => absurd z hx) (fun _ => k)) ?_
  refine sh_mp (fun w Z k => sh_aload_n dc_Mod_ordered_125 rfl rfl k) ?_
  refine sh_mget 12 dc_Mod_ordered_126 (by decide) fl_Mod_42 rfl rfl rfl rfl ?_
  refine sh_mp (fun w Z k => sh_iload dc_Mod_ordered_129 rfl k) ?_
  refine sh_miald 12 (l := 8) (k := i) dc_Mod_ordered_131 (by decide) rfl (by omega) (by decide) ?_
  refine sh_mp (fun w Z k => sh_if_lt (tgt := 168) dc_Mod_ordered_132 (by decide) (fun _ => k) (fun z => absurd c0_132 z)) ?_
  refine sh_mp (fun w Z k => sh_iinc (v := nI (i + 1)) dc_Mod_ordered_168 rfl (sh_nadd rfl (rfl : (1 : Int32) = nI 1)) (by decide) k) ?_
  refine sh_mp (fun w Z k => sh_goto_ (tgt := 118) dc_Mod_ordered_171 (by decide) k) ?_
  refine sh_mlv [1, 2, 3, 0] rfl ?_
  exact k9
theorem mb_Mod_ordered_118_2 {mq : Nat} {A : Nat → Nat} {I I9 : sh_II} {D D9 : sh_DD} {v9 : Option Value} {t : Nat} {s : Nat} {i : Nat} (ht : t < 6) (hs : s < 8) (hi : i < 8) (hx : ¬ 8 ≤ (nI i)) (c0_132 : ¬ (I 12 i) < 0) (c1_138 : (I 12 i) = 0) (c2_152 : (I 13 i) = (nI t)) (k9 : sh_mW mq A md_Mod_ordered (118, [(0, .ref mq), (1, .int (nI t)), (2, .int (nI s)), (4, .int (nI (i + 1)))], []) (sh_u2 I 22 ((8 * i) + s) 1) D 0 0 v9 I9 D9) : sh_mW mq A md_Mod_ordered (118, [(0, .ref mq), (1, .int (nI t)), (2, .int (nI s)), (4, .int (nI i))], []) I D 0 0 v9 I9 D9 := by
  refine sh_mp (fun w Z k => sh_iload dc_Mod_ordered_118 rfl k) ?_
  refine sh_mp (fun w Z k => sh_bipush (v := 8) dc_Mod_ordered_120 (by decide) k) ?_
  refine sh_mp (fun w Z k => sh_icmp_ge (tgt := 174) dc_Mod_ordered_122 (by decide) (fun z => absurd z hx) (fun _ => k)) ?_
  refine sh_mp (fun w Z k => sh_aload_n dc_Mod_ordered_125 rfl rfl k) ?_
  refine sh_mget 12 dc_Mod_ordered_126 (by decide) fl_Mod_42 rfl rfl rfl rfl ?_
  refine sh_mp (fun w Z k => sh_iload dc_Mod_ordered_129 rfl k) ?_
  refine sh_miald 12 (l := 8) (k := i) dc_Mod_ordered_131 (by decide) rfl (by omega) (by decide) ?_
  refine sh_mp (fun w Z k => sh_if_lt (tgt := 168) dc_Mod_ordered_132 (by decide) (fun z => absurd z c0_132) (fun _ => k)) ?_
  refine sh_mp (fun w Z k => sh_aload_n dc_Mod_ordered_135 rfl rfl k) ?_
  refine sh_mp (fun w Z k => sh_iload dc_Mod_ordered_136 rfl k) ?_
  refine sh_mcall (As := [.int (nI i)]) (fun w hw => by obtain ⟨fs, hw⟩ := hw; exact sh_virt dc_Mod_ordered_138 lm_Mod_isLock ln_Mod_128 wd_988 wd_35 rfl rfl (Nat.le_of_ble_eq_true rfl) hw rfl) (mx_Mod_isLock_1 (s := i) (by omega) c1_138) ⟨(Nat.le_of_ble_eq_true rfl), (Nat.le_of_ble_eq_true rfl), (Nat.le_of_ble_eq_true rfl), (Nat.le_of_ble_eq_true rfl)⟩ ?_
  show sh_mW _ _ _ (_, _, [.int 1]) I D _ _ _ _ _
  refine sh_mp (fun w Z k => sh_if_eq (tgt := 168) dc_Mod_ordered_141 (by decide) (fun z => absurd z (by decide)) (fun _ => k)) ?_
  refine sh_mp (fun w Z k => sh_aload_n dc_Mod_ordered_144 rfl rfl k) ?_
  refine sh_mget 13 dc_Mod_ordered_145 (by decide) fl_Mod_45 rfl rfl rfl rfl ?_
  refine sh_mp (fun w Z k => sh_iload dc_Mod_ordered_148 rfl k) ?_
  refine sh_miald 13 (l := 8) (k := i) dc_Mod_ordered_150 (by decide) rfl (by omega) (by decide) ?_
  refine sh_mp (fun w Z k => sh_iload_n dc_Mod_ordered_151 rfl rfl k) ?_
  refine sh_mp (fun w Z k => sh_icmp_ne (tgt := 168) dc_Mod_ordered_152 (by decide) (fun z => absurd c2_152 z) (fun _ => k)) ?_
  refine sh_mp (fun w Z k => sh_aload_n dc_Mod_ordered_155 rfl rfl k) ?_
  refine sh_mget 22 dc_Mod_ordered_156 (by decide) fl_Mod_72 rfl rfl rfl rfl ?_
  refine sh_mp (fun w Z k => sh_bipush (v := 8) dc_Mod_ordered_159 (by decide) k) ?_
  refine sh_mp (fun w Z k => sh_iload dc_Mod_ordered_161 rfl k) ?_
  refine sh_mp (fun w Z k => sh_imul dc_Mod_ordered_163 k) ?_
  refine sh_mp (fun w Z k => sh_iload_n dc_Mod_ordered_164 rfl rfl k) ?_
  refine sh_mp (fun w Z k => sh_iadd dc_Mod_ordered_165 k) ?_
  refine sh_mp (fun w Z k => sh_iconst (v := 1) dc_Mod_ordered_166 (by decide) k) ?_
  refine sh_mzast 22 (l := 64) (k := (8 * i) + s) dc_Mod_ordered_167 (by decide) (sh_nadd (sh_nmul rfl rfl) rfl) (by omega) (by decide) (by decide) ?_
  refine sh_mp (fun w Z k => sh_iinc (v := nI (i + 1)) dc_Mod_ordered_168 rfl (sh_nadd rfl (rfl : (1 : Int32) = nI 1)) (by decide) k) ?_
  refine sh_mp (fun w Z k => sh_goto_ (tgt := 118) dc_Mod_ordered_171 (by decide) k) ?_
  refine sh_mlv [1, 2, 3, 0] rfl ?_
  exact k9
theorem mb_Mod_ordered_118_3 {mq : Nat} {A : Nat → Nat} {I I9 : sh_II} {D D9 : sh_DD} {v9 : Option Value} {t : Nat} {s : Nat} {i : Nat} (ht : t < 6) (hs : s < 8) (hi : i < 8) (hx : ¬ 8 ≤ (nI i)) (c0_132 : ¬ (I 12 i) < 0) (c1_138 : (I 12 i) = 0) (c2_152 : ¬ (I 13 i) = (nI t)) (k9 : sh_mW mq A md_Mod_ordered (118, [(0, .ref mq), (1, .int (nI t)), (2, .int (nI s)), (4, .int (nI (i + 1)))], []) I D 0 0 v9 I9 D9) : sh_mW mq A md_Mod_ordered (118, [(0, .ref mq), (1, .int (nI t)), (2, .int (nI s)), (4, .int (nI i))], []) I D 0 0 v9 I9 D9 := by
  refine sh_mp (fun w Z k => sh_iload dc_Mod_ordered_118 rfl k) ?_
  refine sh_mp (fun w Z k => sh_bipush (v := 8) dc_Mod_ordered_120 (by decide) k) ?_
  refine sh_mp (fun w Z k => sh_icmp_ge (tgt := 174) dc_Mod_ordered_122 (by decide) (fun z => absurd z hx) (fun _ => k)) ?_
  refine sh_mp (fun w Z k => sh_aload_n dc_Mod_ordered_125 rfl rfl k) ?_
  refine sh_mget 12 dc_Mod_ordered_126 (by decide) fl_Mod_42 rfl rfl rfl rfl ?_
  refine sh_mp (fun w Z k => sh_iload dc_Mod_ordered_129 rfl k) ?_
  refine sh_miald 12 (l := 8) (k := i) dc_Mod_ordered_131 (by decide) rfl (by omega) (by decide) ?_
  refine sh_mp (fun w Z k => sh_if_lt (tgt := 168) dc_Mod_ordered_132 (by decide) (fun z => absurd z c0_132) (fun _ => k)) ?_
  refine sh_mp (fun w Z k => sh_aload_n dc_Mod_ordered_135 rfl rfl k) ?_
  refine sh_mp (fun w Z k => sh_iload dc_Mod_ordered_136 rfl k) ?_
  refine sh_mcall (As := [.int (nI i)]) (fun w hw => by obtain ⟨fs, hw⟩ := hw; exact sh_virt dc_Mod_ordered_138 lm_Mod_isLock ln_Mod_128 wd_988 wd_35 rfl rfl (Nat.le_of_ble_eq_true rfl) hw rfl) (mx_Mod_isLock_1 (s := i) (by omega) c1_138) ⟨(Nat.le_of_ble_eq_true rfl), (Nat.le_of_ble_eq_true rfl), (Nat.le_of_ble_eq_true rfl), (Nat.le_of_ble_eq_true rfl)⟩ ?_
  show sh_mW _ _ _ (_, _, [.int 1]) I D _ _ _ _ _
  refine sh_mp (fun w Z k => sh_if_eq (tgt := 168) dc_Mod_ordered_141 (by decide) (fun z => absurd z (by decide)) (fun _ => k)) ?_
  refine sh_mp (fun w Z k => sh_aload_n dc_Mod_ordered_144 rfl rfl k) ?_
  refine sh_mget 13 dc_Mod_ordered_145 (by decide) fl_Mod_45 rfl rfl rfl rfl ?_
  refine sh_mp (fun w Z k => sh_iload dc_Mod_ordered_148 rfl k) ?_
  refine sh_miald 13 (l := 8) (k := i) dc_Mod_ordered_150 (by decide) rfl (by omega) (by decide) ?_
  refine sh_mp (fun w Z k => sh_iload_n dc_Mod_ordered_151 rfl rfl k) ?_
  refine sh_mp (fun w Z k => sh_icmp_ne (tgt := 168) dc_Mod_ordered_152 (by decide) (fun _ => k) (fun z => absurd z c2_152)) ?_
  refine sh_mp (fun w Z k => sh_iinc (v := nI (i + 1)) dc_Mod_ordered_168 rfl (sh_nadd rfl (rfl : (1 : Int32) = nI 1)) (by decide) k) ?_
  refine sh_mp (fun w Z k => sh_goto_ (tgt := 118) dc_Mod_ordered_171 (by decide) k) ?_
  refine sh_mlv [1, 2, 3, 0] rfl ?_
  exact k9
theorem mb_Mod_ordered_118_4 {mq : Nat} {A : Nat → Nat} {I I9 : sh_II} {D D9 : sh_DD} {v9 : Option Value} {t : Nat} {s : Nat} {i : Nat} (ht : t < 6) (hs : s < 8) (hi : i < 8) (hx : ¬ 8 ≤ (nI i)) (c0_132 : ¬ (I 12 i) < 0) (c1_138 : ¬ (I 12 i) = 0) (c2_138 : (I 12 i) = 1) (c3_152 : (I 13 i) = (nI t)) (k9 : sh_mW mq A md_Mod_ordered (118, [(0, .ref mq), (1, .int (nI t)), (2, .int (nI s)), (4, .int (nI (i + 1)))], []) (sh_u2 I 22 ((8 * i) + s) 1) D 0 0 v9 I9 D9) : sh_mW mq A md_Mod_ordered (118, [(0, .ref mq), (1, .int (nI t)), (2, .int (nI s)), (4, .int (nI i))], []) I D 0 0 v9 I9 D9 := by
  refine sh_mp (fun w Z k => sh_iload dc_Mod_ordered_118 rfl k) ?_
  refine sh_mp (fun w Z k => sh_bipush (v := 8) dc_Mod_ordered_120 (by decide) k) ?_
  refine sh_mp (fun w Z k => sh_icmp_ge (tgt := 174) dc_Mod_ordered_122 (by decide) (fun z => absurd z hx) (fun _ => k)) ?_
  refine sh_mp (fun w Z k => sh_aload_n dc_Mod_ordered_125 rfl rfl k) ?_
  refine sh_mget 12 dc_Mod_ordered_126 (by decide) fl_Mod_42 rfl rfl rfl rfl ?_
  refine sh_mp (fun w Z k => sh_iload dc_Mod_ordered_129 rfl k) ?_
  refine sh_miald 12 (l := 8) (k := i) dc_Mod_ordered_131 (by decide) rfl (by omega) (by decide) ?_
  refine sh_mp (fun w Z k => sh_if_lt (tgt := 168) dc_Mod_ordered_132 (by decide) (fun z => absurd z c0_132) (fun _ => k)) ?_
  refine sh_mp (fun w Z k => sh_aload_n dc_Mod_ordered_135 rfl rfl k) ?_
  refine sh_mp (fun w Z k => sh_iload dc_Mod_ordered_136 rfl k) ?_
  refine sh_mcall (As := [.int (nI i)]) (fun w hw => by obtain ⟨fs, hw⟩ := hw; exact sh_virt dc_Mod_ordered_138 lm_Mod_isLock ln_Mod_128 wd_988 wd_35 rfl rfl (Nat.le_of_ble_eq_true rfl) hw rfl) (mx_Mod_isLock_2 (s := i) (by omega) c1_138 c2_138) ⟨(Nat.le_of_ble_eq_true rfl), (Nat.le_of_ble_eq_true rfl), (Nat.le_of_ble_eq_true rfl), (Nat.le_of_ble_eq_true rfl)⟩ ?_
  show sh_mW _ _ _ (_, _, [.int 1]) I D _ _ _ _ _
  refine sh_mp (fun w Z k => sh_if_eq (tgt := 168) dc_Mod_ordered_141 (by decide) (fun z => absurd z (by decide)) (fun _ => k)) ?_
  refine sh_mp (fun w Z k => sh_aload_n dc_Mod_ordered_144 rfl rfl k) ?_
  refine sh_mget 13 dc_Mod_ordered_145 (by decide) fl_Mod_45 rfl rfl rfl rfl ?_
  refine sh_mp (fun w Z k => sh_iload dc_Mod_ordered_148 rfl k) ?_
  refine sh_miald 13 (l := 8) (k := i) dc_Mod_ordered_150 (by decide) rfl (by omega) (by decide) ?_
  refine sh_mp (fun w Z k => sh_iload_n dc_Mod_ordered_151 rfl rfl k) ?_
  refine sh_mp (fun w Z k => sh_icmp_ne (tgt := 168) dc_Mod_ordered_152 (by decide) (fun z => absurd c3_152 z) (fun _ => k)) ?_
  refine sh_mp (fun w Z k => sh_aload_n dc_Mod_ordered_155 rfl rfl k) ?_
  refine sh_mget 22 dc_Mod_ordered_156 (by decide) fl_Mod_72 rfl rfl rfl rfl ?_
  refine sh_mp (fun w Z k => sh_bipush (v := 8) dc_Mod_ordered_159 (by decide) k) ?_
  refine sh_mp (fun w Z k => sh_iload dc_Mod_ordered_161 rfl k) ?_
  refine sh_mp (fun w Z k => sh_imul dc_Mod_ordered_163 k) ?_
  refine sh_mp (fun w Z k => sh_iload_n dc_Mod_ordered_164 rfl rfl k) ?_
  refine sh_mp (fun w Z k => sh_iadd dc_Mod_ordered_165 k) ?_
  refine sh_mp (fun w Z k => sh_iconst (v := 1) dc_Mod_ordered_166 (by decide) k) ?_
  refine sh_mzast 22 (l := 64) (k := (8 * i) + s) dc_Mod_ordered_167 (by decide) (sh_nadd (sh_nmul rfl rfl) rfl) (by omega) (by decide) (by decide) ?_
  refine sh_mp (fun w Z k => sh_iinc (v := nI (i + 1)) dc_Mod_ordered_168 rfl (sh_nadd rfl (rfl : (1 : Int32) = nI 1)) (by decide) k) ?_
  refine sh_mp (fun w Z k => sh_goto_ (tgt := 118) dc_Mod_ordered_171 (by decide) k) ?_
  refine sh_mlv [1, 2, 3, 0] rfl ?_
  exact k9
theorem mb_Mod_ordered_118_5 {mq : Nat} {A : Nat → Nat} {I I9 : sh_II} {D D9 : sh_DD} {v9 : Option Value} {t : Nat} {s : Nat} {i : Nat} (ht : t < 6) (hs : s < 8) (hi : i < 8) (hx : ¬ 8 ≤ (nI i)) (c0_132 : ¬ (I 12 i) < 0) (c1_138 : ¬ (I 12 i) = 0) (c2_138 : (I 12 i) = 1) (c3_152 : ¬ (I 13 i) = (nI t)) (k9 : sh_mW mq A md_Mod_ordered (118, [(0, .ref mq), (1, .int (nI t)), (2, .int (nI s)), (4, .int (nI (i + 1)))], []) I D 0 0 v9 I9 D9) : sh_mW mq A md_Mod_ordered (118, [(0, .ref mq), (1, .int (nI t)), (2, .int (nI s)), (4, .int (nI i))], []) I D 0 0 v9 I9 D9 := by
  refine sh_mp (fun w Z k => sh_iload dc_Mod_ordered_118 rfl k) ?_
  refine sh_mp (fun w Z k => sh_bipush (v := 8) dc_Mod_ordered_120 (by decide) k) ?_
  refine sh_mp (fun w Z k => sh_icmp_ge (tgt := 174) dc_Mod_ordered_122 (by decide) (fun z => absurd z hx) (fun _ => k)) ?_
  refine sh_mp (fun w Z k => sh_aload_n dc_Mod_ordered_125 rfl rfl k) ?_
  refine sh_mget 12 dc_Mod_ordered_126 (by decide) fl_Mod_42 rfl rfl rfl rfl ?_
  refine sh_mp (fun w Z k => sh_iload dc_Mod_ordered_129 rfl k) ?_
  refine sh_miald 12 (l := 8) (k := i) dc_Mod_ordered_131 (by decide) rfl (by omega) (by decide) ?_
  refine sh_mp (fun w Z k => sh_if_lt (tgt := 168) dc_Mod_ordered_132 (by decide) (fun z => absurd z c0_132) (fun _ => k)) ?_
  refine sh_mp (fun w Z k => sh_aload_n dc_Mod_ordered_135 rfl rfl k) ?_
  refine sh_mp (fun w Z k => sh_iload dc_Mod_ordered_136 rfl k) ?_
  refine sh_mcall (As := [.int (nI i)]) (fun w hw => by obtain ⟨fs, hw⟩ := hw; exact sh_virt dc_Mod_ordered_138 lm_Mod_isLock ln_Mod_128 wd_988 wd_35 rfl rfl (Nat.le_of_ble_eq_true rfl) hw rfl) (mx_Mod_isLock_2 (s := i) (by omega) c1_138 c2_138) ⟨(Nat.le_of_ble_eq_true rfl), (Nat.le_of_ble_eq_true rfl), (Nat.le_of_ble_eq_true rfl), (Nat.le_of_ble_eq_true rfl)⟩ ?_
  show sh_mW _ _ _ (_, _, [.int 1]) I D _ _ _ _ _
  refine sh_mp (fun w Z k => sh_if_eq (tgt := 168) dc_Mod_ordered_141 (by decide) (fun z => absurd z (by decide)) (fun _ => k)) ?_
  refine sh_mp (fun w Z k => sh_aload_n dc_Mod_ordered_144 rfl rfl k) ?_
  refine sh_mget 13 dc_Mod_ordered_145 (by decide) fl_Mod_45 rfl rfl rfl rfl ?_
  refine sh_mp (fun w Z k => sh_iload dc_Mod_ordered_148 rfl k) ?_
  refine sh_miald 13 (l := 8) (k := i) dc_Mod_ordered_150 (by decide) rfl (by omega) (by decide) ?_
  refine sh_mp (fun w Z k => sh_iload_n dc_Mod_ordered_151 rfl rfl k) ?_
  refine sh_mp (fun w Z k => sh_icmp_ne (tgt := 168) dc_Mod_ordered_152 (by decide) (fun _ => k) (fun z => absurd z c3_152)) ?_
  refine sh_mp (fun w Z k => sh_iinc (v := nI (i + 1)) dc_Mod_ordered_168 rfl (sh_nadd rfl (rfl : (1 : Int32) = nI 1)) (by decide) k) ?_
  refine sh_mp (fun w Z k => sh_goto_ (tgt := 118) dc_Mod_ordered_171 (by decide) k) ?_
  refine sh_mlv [1, 2, 3, 0] rfl ?_
  exact k9
theorem mb_Mod_ordered_118_6 {mq : Nat} {A : Nat → Nat} {I I9 : sh_II} {D D9 : sh_DD} {v9 : Option Value} {t : Nat} {s : Nat} {i : Nat} (ht : t < 6) (hs : s < 8) (hi : i < 8) (hx : ¬ 8 ≤ (nI i)) (c0_132 : ¬ (I 12 i) < 0) (c1_138 : ¬ (I 12 i) = 0) (c2_138 : ¬ (I 12 i) = 1) (k9 : sh_mW mq A md_Mod_ordered (118, [(0, .ref mq), (1, .int (nI t)), (2, .int (nI s)), (4, .int (nI (i + 1)))], []) I D 0 0 v9 I9 D9) : sh_mW mq A md_Mod_ordered (118, [(0, .ref mq), (1, .int (nI t)), (2, .int (nI s)), (4, .int (nI i))], []) I D 0 0 v9 I9 D9 := by
  refine sh_mp (fun w Z k => sh_iload dc_Mod_ordered_118 rfl k) ?_
  refine sh_mp (fun w Z k => sh_bipush (v := 8) dc_Mod_ordered_120 (by decide) k) ?_
  refine sh_mp (fun w Z k => sh_icmp_ge (tgt := 174) dc_Mod_ordered_122 (by decide) (fun z => absurd z hx) (fun _ => k)) ?_
  refine sh_mp (fun w Z k => sh_aload_n dc_Mod_ordered_125 rfl rfl k) ?_
  refine sh_mget 12 dc_Mod_ordered_126 (by decide) fl_Mod_42 rfl rfl rfl rfl ?_
  refine sh_mp (fun w Z k => sh_iload dc_Mod_ordered_129 rfl k) ?_
  refine sh_miald 12 (l := 8) (k := i) dc_Mod_ordered_131 (by decide) rfl (by omega) (by decide) ?_
  refine sh_mp (fun w Z k => sh_if_lt (tgt := 168) dc_Mod_ordered_132 (by decide) (fun z => absurd z c0_132) (fun _ => k)) ?_
  refine sh_mp (fun w Z k => sh_aload_n dc_Mod_ordered_135 rfl rfl k) ?_
  refine sh_mp (fun w Z k => sh_iload dc_Mod_ordered_136 rfl k) ?_
  refine sh_mcall (As := [.int (nI i)]) (fun w hw => by obtain ⟨fs, hw⟩ := hw; exact sh_virt dc_Mod_ordered_138 lm_Mod_isLock ln_Mod_128 wd_988 wd_35 rfl rfl (Nat.le_of_ble_eq_true rfl) hw rfl) (mx_Mod_isLock_3 (s := i) (by omega) c1_138 c2_138) ⟨(Nat.le_of_ble_eq_true rfl), (Nat.le_of_ble_eq_true rfl), (Nat.le_of_ble_eq_true rfl), (Nat.le_of_ble_eq_true rfl)⟩ ?_
  show sh_mW _ _ _ (_, _, [.int 0]) I D _ _ _ _ _
  refine sh_mp (fun w Z k => sh_if_eq (tgt := 168) dc_Mod_ordered_141 (by decide) (fun _ => k) (fun z => absurd (by decide) z)) ?_
  refine sh_mp (fun w Z k => sh_iinc (v := nI (i + 1)) dc_Mod_ordered_168 rfl (sh_nadd rfl (rfl : (1 : Int32) = nI 1)) (by decide) k) ?_
  refine sh_mp (fun w Z k => sh_goto_ (tgt := 118) dc_Mod_ordered_171 (by decide) k) ?_
  refine sh_mlv [1, 2, 3, 0] rfl ?_
  exact k9
theorem mx_Mod_queue_1 {mq : Nat} {A : Nat → Nat} {I : sh_II} {D : sh_DD} {t : Nat} {s : Nat} {x : Int32} {q : Nat} {l24 : List Nat} {l58 : List Nat} {l68 : List Nat} (ht : t < 6) (hs : s < 8) (hq : q < 8) (eq : I 16 s = nI q) (c0_7 : (I 5 t) = (nI s)) (c1_12 : x = 1) (v2_18 : vf_n64 (FP.dsub (D 11 0) (D 8 t))) (v3_18 : vf_n64 (FP.dadd (D 20 s) (FP.dsub (D 11 0) (D 8 t)))) (v4_24 : cw_row (sh_u2 I 21 s ((I 21 s) + 1)) s l24) (v5_24 : l24.Nodup) (v6_24 : t ∈ l24) (v7_58 : cw_row (sh_u2 (sh_u2 (sp_mrem (sh_u2 I 21 s ((I 21 s) + 1)) s t l24) 10 t x) 6 t 0) q l58) (v8_58 : l58.length < 6) (v9_68 : ¬ (I 12 q) = 6) (v10_68 : cw_row (sp_ment (sh_u2 (sh_u2 (sp_mrem (sh_u2 I 21 s ((I 21 s) + 1)) s t l24) 10 t x) 6 t 0) q t l58) q l68) (v11_68 : sp_mvok q l68.length (sp_ment (sh_u2 (sh_u2 (sp_mrem (sh_u2 I 21 s ((I 21 s) + 1)) s t l24) 10 t x) 6 t 0) q t l58) (sh_u2 (sh_u2 (sh_u2 D 20 s (FP.dadd (D 20 s) (FP.dsub (D 11 0) (D 8 t)))) 7 t 13830554455654793216) 8 t ((sh_u2 (sh_u2 D 20 s (FP.dadd (D 20 s) (FP.dsub (D 11 0) (D 8 t)))) 7 t 13830554455654793216) 11 0)) l68) : sh_mM mq A md_Mod_queue [.ref mq, .int (nI t), .int (nI s), .int x] I D none (sp_mserve q l68.length (sp_ment (sh_u2 (sh_u2 (sp_mrem (sh_u2 I 21 s ((I 21 s) + 1)) s t l24) 10 t x) 6 t 0) q t l58) (sh_u2 (sh_u2 (sh_u2 D 20 s (FP.dadd (D 20 s) (FP.dsub (D 11 0) (D 8 t)))) 7 t 13830554455654793216) 8 t ((sh_u2 (sh_u2 D 20 s (FP.dadd (D 20 s) (FP.dsub (D 11 0) (D 8 t)))) 7 t 13830554455654793216) 11 0)) l68).1 (sp_mserve q l68.length (sp_ment (sh_u2 (sh_u2 (sp_mrem (sh_u2 I 21 s ((I 21 s) + 1)) s t l24) 10 t x) 6 t 0) q t l58) (sh_u2 (sh_u2 (sh_u2 D 20 s (FP.dadd (D 20 s) (FP.dsub (D 11 0) (D 8 t)))) 7 t 13830554455654793216) 8 t ((sh_u2 (sh_u2 D 20 s (FP.dadd (D 20 s) (FP.dsub (D 11 0) (D 8 t)))) 7 t 13830554455654793216) 11 0)) l68).2 := by
  refine sh_mp (fun w Z k => sh_aload_n dc_Mod_queue_0 rfl rfl k) ?_
  refine sh_mget 5 dc_Mod_queue_1 (by decide) fl_Mod_24 rfl rfl rfl rfl ?_
  refine sh_mp (fun w Z k => sh_iload_n dc_Mod_queue_4 rfl rfl k) ?_
  refine sh_miald 5 (l := 6) (k := t) dc_Mod_queue_5 (by decide) rfl (by omega) (by decide) ?_
  refine sh_mp (fun w Z k => sh_iload_n dc_Mod_queue_6 rfl rfl k) ?_
  refine sh_mp (fun w Z k => sh_icmp_ne (tgt := 27) dc_Mod_queue_7 (by decide) (fun z => absurd c0_7 z) (fun _ => k)) ?_
  refine sh_mp (fun w Z k => sh_iload_n dc_Mod_queue_10 rfl rfl k) ?_
  refine sh_mp (fun w Z k => sh_iconst (v := 1) dc_Mod_queue_11 (by decide) k) ?_
  refine sh_mp (fun w Z k => sh_icmp_ne (tgt := 21) dc_Mod_queue_12 (by decide) (fun z => absurd c1_12 z) (fun _ => k)) ?_
  refine sh_mp (fun w Z k => sh_aload_n dc_Mod_queue_15 rfl rfl k) ?_
  refine sh_mp (fun w Z k => sh_iload_n dc_Mod_queue_16 rfl rfl k) ?_
  refine sh_mp (fun w Z k => sh_iload_n dc_Mod_queue_17 rfl rfl k) ?_
  refine sh_mcall (As := [.int (nI t), .int (nI s)]) (fun w hw => by obtain ⟨fs, hw⟩ := hw; exact sh_virt dc_Mod_queue_18 lm_Mod_addWaited ln_Mod_109 wd_1028 wd_44 rfl rfl (Nat.le_of_ble_eq_true rfl) hw rfl) (mx_Mod_addWaited_1 (t := t) (s := s) (by omega) (by omega) v2_18 v3_18) ⟨(Nat.le_of_ble_eq_true rfl), (Nat.le_of_ble_eq_true rfl), (Nat.le_of_ble_eq_true rfl), (Nat.le_of_ble_eq_true rfl)⟩ ?_
  show sh_mW _ _ _ (_, _, []) (sh_u2 I 21 s ((I 21 s) + 1)) (sh_u2 D 20 s (FP.dadd (D 20 s) (FP.dsub (D 11 0) (D 8 t)))) _ _ _ _ _
  refine sh_mp (fun w Z k => sh_aload_n dc_Mod_queue_21 rfl rfl k) ?_
  refine sh_mp (fun w Z k => sh_iload_n dc_Mod_queue_22 rfl rfl k) ?_
  refine sh_mp (fun w Z k => sh_iload_n dc_Mod_queue_23 rfl rfl k) ?_
  refine sh_mcall (As := [.int (nI t), .int (nI s)]) (fun w hw => by obtain ⟨fs, hw⟩ := hw; exact sh_virt dc_Mod_queue_24 lm_Mod_remove ln_Mod_105 wd_1024 wd_43 rfl rfl (Nat.le_of_ble_eq_true rfl) hw rfl) (ml_remove (t := t) (s := s) (l := l24) (by omega) (by omega) v4_24 v5_24 v6_24) ⟨(Nat.le_of_ble_eq_true rfl), (Nat.le_of_ble_eq_true rfl), (Nat.le_of_ble_eq_true rfl), (Nat.le_of_ble_eq_true rfl)⟩ ?_
  show sh_mW _ _ _ (_, _, []) (sp_mrem (sh_u2 I 21 s ((I 21 s) + 1)) s t l24) (sh_u2 D 20 s (FP.dadd (D 20 s) (FP.dsub (D 11 0) (D 8 t)))) _ _ _ _ _
  refine sh_mp (fun w Z k => sh_aload_n dc_Mod_queue_27 rfl rfl k) ?_
  refine sh_mget 10 dc_Mod_queue_28 (by decide) fl_Mod_39 rfl rfl rfl rfl ?_
  refine sh_mp (fun w Z k => sh_iload_n dc_Mod_queue_31 rfl rfl k) ?_
  refine sh_mp (fun w Z k => sh_iload_n dc_Mod_queue_32 rfl rfl k) ?_
  refine sh_miast 10 (l := 6) (k := t) dc_Mod_queue_33 (by decide) rfl (by omega) (by decide) ?_
  refine sh_mp (fun w Z k => sh_aload_n dc_Mod_queue_34 rfl rfl k) ?_
  refine sh_mget 7 dc_Mod_queue_35 (by decide) fl_Mod_30 rfl rfl rfl rfl ?_
  refine sh_mp (fun w Z k => sh_iload_n dc_Mod_queue_38 rfl rfl k) ?_
  refine sh_mp (fun w Z k => sh_ldc2d (v := 13830554455654793216) dc_Mod_queue_39 wd_973 k) ?_
  refine sh_mdast 7 (l := 6) (k := t) dc_Mod_queue_42 (by decide) rfl (by omega) (by decide) ?_
  refine sh_mp (fun w Z k => sh_aload_n dc_Mod_queue_43 rfl rfl k) ?_
  refine sh_mget 6 dc_Mod_queue_44 (by decide) fl_Mod_27 rfl rfl rfl rfl ?_
  refine sh_mp (fun w Z k => sh_iload_n dc_Mod_queue_47 rfl rfl k) ?_
  refine sh_mp (fun w Z k => sh_iconst (v := 0) dc_Mod_queue_48 (by decide) k) ?_
  refine sh_miast 6 (l := 6) (k := t) dc_Mod_queue_49 (by decide) rfl (by omega) (by decide) ?_
  refine sh_mp (fun w Z k => sh_aload_n dc_Mod_queue_50 rfl rfl k) ?_
  refine sh_mp (fun w Z k => sh_iload_n dc_Mod_queue_51 rfl rfl k) ?_
  refine sh_mp (fun w Z k => sh_aload_n dc_Mod_queue_52 rfl rfl k) ?_
  refine sh_mget 16 dc_Mod_queue_53 (by decide) fl_Mod_54 rfl rfl rfl rfl ?_
  refine sh_mp (fun w Z k => sh_iload_n dc_Mod_queue_56 rfl rfl k) ?_
  refine sh_miald 16 (l := 8) (k := s) dc_Mod_queue_57 (by decide) rfl (by omega) (by decide) ?_
  refine sh_mti (show (sh_u2 (sh_u2 (sp_mrem (sh_u2 I 21 s ((I 21 s) + 1)) s t l24) 10 t x) 6 t 0) 16 s = I 16 s from (Eq.trans (sh_u2_row (by decide) _) (Eq.trans (sh_u2_row (by decide) _) (Eq.trans (sp_mrem_keep (by decide) _) (sh_u2_row (by decide) _))))) ?_
  refine sh_mstk (show ([.int (I 16 s), .int (nI t), .ref mq] : List Value) = [.int (nI q), .int (nI t), .ref mq] from by rw [eq]) ?_
  refine sh_mcall (As := [.int (nI t), .int (nI q)]) (fun w hw => by obtain ⟨fs, hw⟩ := hw; exact sh_virt dc_Mod_queue_58 lm_Mod_enter ln_Mod_118 wd_1008 wd_40 rfl rfl (Nat.le_of_ble_eq_true rfl) hw rfl) (ml_enter (t := t) (s := q) (l := l58) (by omega) (by omega) v7_58 v8_58) ⟨(Nat.le_of_ble_eq_true rfl), (Nat.le_of_ble_eq_true rfl), (Nat.le_of_ble_eq_true rfl), (Nat.le_of_ble_eq_true rfl)⟩ ?_
  show sh_mW _ _ _ (_, _, []) (sp_ment (sh_u2 (sh_u2 (sp_mrem (sh_u2 I 21 s ((I 21 s) + 1)) s t l24) 10 t x) 6 t 0) q t l58) (sh_u2 (sh_u2 (sh_u2 D 20 s (FP.dadd (D 20 s) (FP.dsub (D 11 0) (D 8 t)))) 7 t 13830554455654793216) 8 t ((sh_u2 (sh_u2 D 20 s (FP.dadd (D 20 s) (FP.dsub (D 11 0) (D 8 t)))) 7 t 13830554455654793216) 11 0)) _ _ _ _ _
  refine sh_mp (fun w Z k => sh_aload_n dc_Mod_queue_61 rfl rfl k) ?_
  refine sh_mp (fun w Z k => sh_aload_n dc_Mod_queue_62 rfl rfl k) ?_
  refine sh_mget 16 dc_Mod_queue_63 (by decide) fl_Mod_54 rfl rfl rfl rfl ?_
  refine sh_mp (fun w Z k => sh_iload_n dc_Mod_queue_66 rfl rfl k) ?_
  refine sh_miald 16 (l := 8) (k := s) dc_Mod_queue_67 (by decide) rfl (by omega) (by decide) ?_
  refine sh_mti (show (sp_ment (sh_u2 (sh_u2 (sp_mrem (sh_u2 I 21 s ((I 21 s) + 1)) s t l24) 10 t x) 6 t 0) q t l58) 16 s = I 16 s from (Eq.trans (sp_ment_keep (by decide) _) (Eq.trans (sh_u2_row (by decide) _) (Eq.trans (sh_u2_row (by decide) _) (Eq.trans (sp_mrem_keep (by decide) _) (sh_u2_row (by decide) _)))))) ?_
  refine sh_mstk (show ([.int (I 16 s), .ref mq] : List Value) = [.int (nI q), .ref mq] from by rw [eq]) ?_
  refine sh_mcall (As := [.int (nI q)]) (fun w hw => by obtain ⟨fs, hw⟩ := hw; exact sh_virt dc_Mod_queue_68 lm_Mod_serve ln_Mod_121 wd_1016 wd_41 rfl rfl (Nat.le_of_ble_eq_true rfl) hw rfl) (ml_serve (s := q) (l := l68) (by omega) (Eq.mpr (by rw [(show (sp_ment (sh_u2 (sh_u2 (sp_mrem (sh_u2 I 21 s ((I 21 s) + 1)) s t l24) 10 t x) 6 t 0) q t l58) 12 q = I 12 q from (Eq.trans (sp_ment_keep (by decide) _) (Eq.trans (sh_u2_row (by decide) _) (Eq.trans (sh_u2_row (by decide) _) (Eq.trans (sp_mrem_keep (by decide) _) (sh_u2_row (by decide) _))))))]) v9_68) v10_68 v11_68) ⟨(Nat.le_of_ble_eq_true rfl), (Nat.le_of_ble_eq_true rfl), (Nat.le_of_ble_eq_true rfl), (Nat.le_of_ble_eq_true rfl)⟩ ?_
  show sh_mW _ _ _ (_, _, []) (sp_mserve q l68.length (sp_ment (sh_u2 (sh_u2 (sp_mrem (sh_u2 I 21 s ((I 21 s) + 1)) s t l24) 10 t x) 6 t 0) q t l58) (sh_u2 (sh_u2 (sh_u2 D 20 s (FP.dadd (D 20 s) (FP.dsub (D 11 0) (D 8 t)))) 7 t 13830554455654793216) 8 t ((sh_u2 (sh_u2 D 20 s (FP.dadd (D 20 s) (FP.dsub (D 11 0) (D 8 t)))) 7 t 13830554455654793216) 11 0)) l68).1 (sp_mserve q l68.length (sp_ment (sh_u2 (sh_u2 (sp_mrem (sh_u2 I 21 s ((I 21 s) + 1)) s t l24) 10 t x) 6 t 0) q t l58) (sh_u2 (sh_u2 (sh_u2 D 20 s (FP.dadd (D 20 s) (FP.dsub (D 11 0) (D 8 t)))) 7 t 13830554455654793216) 8 t ((sh_u2 (sh_u2 D 20 s (FP.dadd (D 20 s) (FP.dsub (D 11 0) (D 8 t)))) 7 t 13830554455654793216) 11 0)) l68).2 _ _ _ _ _
  exact sh_me (fun w => sh_return dc_Mod_queue_71 rfl (by decide) (by decide))
theorem mx_Mod_queue_2 {mq : Nat} {A : Nat → Nat} {I : sh_II} {D : sh_DD} {t : Nat} {s : Nat} {x : Int32} {q : Nat} {l24 : List Nat} {l58 : List Nat} {l68 : List Nat} (ht : t < 6) (hs : s < 8) (hq : q < 8) (eq : I 16 s = nI q) (c0_7 : (I 5 t) = (nI s)) (c1_12 : ¬ x = 1) (v2_24 : cw_row I s l24) (v3_24 : l24.Nodup) (v4_24 : t ∈ l24) (v5_58 : cw_row (sh_u2 (sh_u2 (sp_mrem I s t l24) 10 t x) 6 t 0) q l58) (v6_58 : l58.length < 6) (v7_68 : ¬ (I 12 q) = 6) (v8_68 : cw_row (sp_ment (sh_u2 (sh_u2 (sp_mrem I s t l24) 10 t x) 6 t 0) q t l58) q l68) (v9_68 : sp_mvok q l68.length (sp_ment (sh_u2 (sh_u2 (sp_mrem I s t l24) 10 t x) 6 t 0) q t l58) (sh_u2 (sh_u2 D 7 t 13830554455654793216) 8 t ((sh_u2 D 7 t 13830554455654793216) 11 0)) l68) : sh_mM mq A md_Mod_queue [.ref mq, .int (nI t), .int (nI s), .int x] I D none (sp_mserve q l68.length (sp_ment (sh_u2 (sh_u2 (sp_mrem I s t l24) 10 t x) 6 t 0) q t l58) (sh_u2 (sh_u2 D 7 t 13830554455654793216) 8 t ((sh_u2 D 7 t 13830554455654793216) 11 0)) l68).1 (sp_mserve q l68.length (sp_ment (sh_u2 (sh_u2 (sp_mrem I s t l24) 10 t x) 6 t 0) q t l58) (sh_u2 (sh_u2 D 7 t 13830554455654793216) 8 t ((sh_u2 D 7 t 13830554455654793216) 11 0)) l68).2 := by
  refine sh_mp (fun w Z k => sh_aload_n dc_Mod_queue_0 rfl rfl k) ?_
  refine sh_mget 5 dc_Mod_queue_1 (by decide) fl_Mod_24 rfl rfl rfl rfl ?_
  refine sh_mp (fun w Z k => sh_iload_n dc_Mod_queue_4 rfl rfl k) ?_
  refine sh_miald 5 (l := 6) (k := t) dc_Mod_queue_5 (by decide) rfl (by omega) (by decide) ?_
  refine sh_mp (fun w Z k => sh_iload_n dc_Mod_queue_6 rfl rfl k) ?_
  refine sh_mp (fun w Z k => sh_icmp_ne (tgt := 27) dc_Mod_queue_7 (by decide) (fun z => absurd c0_7 z) (fun _ => k)) ?_
  refine sh_mp (fun w Z k => sh_iload_n dc_Mod_queue_10 rfl rfl k) ?_
  refine sh_mp (fun w Z k => sh_iconst (v := 1) dc_Mod_queue_11 (by decide) k) ?_
  refine sh_mp (fun w Z k => sh_icmp_ne (tgt := 21) dc_Mod_queue_12 (by decide) (fun _ => k) (fun z => absurd z c1_12)) ?_
  refine sh_mp (fun w Z k => sh_aload_n dc_Mod_queue_21 rfl rfl k) ?_
  refine sh_mp (fun w Z k => sh_iload_n dc_Mod_queue_22 rfl rfl k) ?_
  refine sh_mp (fun w Z k => sh_iload_n dc_Mod_queue_23 rfl rfl k) ?_
  refine sh_mcall (As := [.int (nI t), .int (nI s)]) (fun w hw => by obtain ⟨fs, hw⟩ := hw; exact sh_virt dc_Mod_queue_24 lm_Mod_remove ln_Mod_105 wd_1024 wd_43 rfl rfl (Nat.le_of_ble_eq_true rfl) hw rfl) (ml_remove (t := t) (s := s) (l := l24) (by omega) (by omega) v2_24 v3_24 v4_24) ⟨(Nat.le_of_ble_eq_true rfl), (Nat.le_of_ble_eq_true rfl), (Nat.le_of_ble_eq_true rfl), (Nat.le_of_ble_eq_true rfl)⟩ ?_
  show sh_mW _ _ _ (_, _, []) (sp_mrem I s t l24) D _ _ _ _ _
  refine sh_mp (fun w Z k => sh_aload_n dc_Mod_queue_27 rfl rfl k) ?_
  refine sh_mget 10 dc_Mod_queue_28 (by decide) fl_Mod_39 rfl rfl rfl rfl ?_
  refine sh_mp (fun w Z k => sh_iload_n dc_Mod_queue_31 rfl rfl k) ?_
  refine sh_mp (fun w Z k => sh_iload_n dc_Mod_queue_32 rfl rfl k) ?_
  refine sh_miast 10 (l := 6) (k := t) dc_Mod_queue_33 (by decide) rfl (by omega) (by decide) ?_
  refine sh_mp (fun w Z k => sh_aload_n dc_Mod_queue_34 rfl rfl k) ?_
  refine sh_mget 7 dc_Mod_queue_35 (by decide) fl_Mod_30 rfl rfl rfl rfl ?_
  refine sh_mp (fun w Z k => sh_iload_n dc_Mod_queue_38 rfl rfl k) ?_
  refine sh_mp (fun w Z k => sh_ldc2d (v := 13830554455654793216) dc_Mod_queue_39 wd_973 k) ?_
  refine sh_mdast 7 (l := 6) (k := t) dc_Mod_queue_42 (by decide) rfl (by omega) (by decide) ?_
  refine sh_mp (fun w Z k => sh_aload_n dc_Mod_queue_43 rfl rfl k) ?_
  refine sh_mget 6 dc_Mod_queue_44 (by decide) fl_Mod_27 rfl rfl rfl rfl ?_
  refine sh_mp (fun w Z k => sh_iload_n dc_Mod_queue_47 rfl rfl k) ?_
  refine sh_mp (fun w Z k => sh_iconst (v := 0) dc_Mod_queue_48 (by decide) k) ?_
  refine sh_miast 6 (l := 6) (k := t) dc_Mod_queue_49 (by decide) rfl (by omega) (by decide) ?_
  refine sh_mp (fun w Z k => sh_aload_n dc_Mod_queue_50 rfl rfl k) ?_
  refine sh_mp (fun w Z k => sh_iload_n dc_Mod_queue_51 rfl rfl k) ?_
  refine sh_mp (fun w Z k => sh_aload_n dc_Mod_queue_52 rfl rfl k) ?_
  refine sh_mget 16 dc_Mod_queue_53 (by decide) fl_Mod_54 rfl rfl rfl rfl ?_
  refine sh_mp (fun w Z k => sh_iload_n dc_Mod_queue_56 rfl rfl k) ?_
  refine sh_miald 16 (l := 8) (k := s) dc_Mod_queue_57 (by decide) rfl (by omega) (by decide) ?_
  refine sh_mti (show (sh_u2 (sh_u2 (sp_mrem I s t l24) 10 t x) 6 t 0) 16 s = I 16 s from (Eq.trans (sh_u2_row (by decide) _) (Eq.trans (sh_u2_row (by decide) _) (sp_mrem_keep (by decide) _)))) ?_
  refine sh_mstk (show ([.int (I 16 s), .int (nI t), .ref mq] : List Value) = [.int (nI q), .int (nI t), .ref mq] from by rw [eq]) ?_
  refine sh_mcall (As := [.int (nI t), .int (nI q)]) (fun w hw => by obtain ⟨fs, hw⟩ := hw; exact sh_virt dc_Mod_queue_58 lm_Mod_enter ln_Mod_118 wd_1008 wd_40 rfl rfl (Nat.le_of_ble_eq_true rfl) hw rfl) (ml_enter (t := t) (s := q) (l := l58) (by omega) (by omega) v5_58 v6_58) ⟨(Nat.le_of_ble_eq_true rfl), (Nat.le_of_ble_eq_true rfl), (Nat.le_of_ble_eq_true rfl), (Nat.le_of_ble_eq_true rfl)⟩ ?_
  show sh_mW _ _ _ (_, _, []) (sp_ment (sh_u2 (sh_u2 (sp_mrem I s t l24) 10 t x) 6 t 0) q t l58) (sh_u2 (sh_u2 D 7 t 13830554455654793216) 8 t ((sh_u2 D 7 t 13830554455654793216) 11 0)) _ _ _ _ _
  refine sh_mp (fun w Z k => sh_aload_n dc_Mod_queue_61 rfl rfl k) ?_
  refine sh_mp (fun w Z k => sh_aload_n dc_Mod_queue_62 rfl rfl k) ?_
  refine sh_mget 16 dc_Mod_queue_63 (by decide) fl_Mod_54 rfl rfl rfl rfl ?_
  refine sh_mp (fun w Z k => sh_iload_n dc_Mod_queue_66 rfl rfl k) ?_
  refine sh_miald 16 (l := 8) (k := s) dc_Mod_queue_67 (by decide) rfl (by omega) (by decide) ?_
  refine sh_mti (show (sp_ment (sh_u2 (sh_u2 (sp_mrem I s t l24) 10 t x) 6 t 0) q t l58) 16 s = I 16 s from (Eq.trans (sp_ment_keep (by decide) _) (Eq.trans (sh_u2_row (by decide) _) (Eq.trans (sh_u2_row (by decide) _) (sp_mrem_keep (by decide) _))))) ?_
  refine sh_mstk (show ([.int (I 16 s), .ref mq] : List Value) = [.int (nI q), .ref mq] from by rw [eq]) ?_
  refine sh_mcall (As := [.int (nI q)]) (fun w hw => by obtain ⟨fs, hw⟩ := hw; exact sh_virt dc_Mod_queue_68 lm_Mod_serve ln_Mod_121 wd_1016 wd_41 rfl rfl (Nat.le_of_ble_eq_true rfl) hw rfl) (ml_serve (s := q) (l := l68) (by omega) (Eq.mpr (by rw [(show (sp_ment (sh_u2 (sh_u2 (sp_mrem I s t l24) 10 t x) 6 t 0) q t l58) 12 q = I 12 q from (Eq.trans (sp_ment_keep (by decide) _) (Eq.trans (sh_u2_row (by decide) _) (Eq.trans (sh_u2_row (by decide) _) (sp_mrem_keep (by decide) _)))))]) v7_68) v8_68 v9_68) ⟨(Nat.le_of_ble_eq_true rfl), (Nat.le_of_ble_eq_true rfl), (Nat.le_of_ble_eq_true rfl), (Nat.le_of_ble_eq_true rfl)⟩ ?_
  show sh_mW _ _ _ (_, _, []) (sp_mserve q l68.length (sp_ment (sh_u2 (sh_u2 (sp_mrem I s t l24) 10 t x) 6 t 0) q t l58) (sh_u2 (sh_u2 D 7 t 13830554455654793216) 8 t ((sh_u2 D 7 t 13830554455654793216) 11 0)) l68).1 (sp_mserve q l68.length (sp_ment (sh_u2 (sh_u2 (sp_mrem I s t l24) 10 t x) 6 t 0) q t l58) (sh_u2 (sh_u2 D 7 t 13830554455654793216) 8 t ((sh_u2 D 7 t 13830554455654793216) 11 0)) l68).2 _ _ _ _ _
  exact sh_me (fun w => sh_return dc_Mod_queue_71 rfl (by decide) (by decide))
theorem mx_Mod_queue_3 {mq : Nat} {A : Nat → Nat} {I : sh_II} {D : sh_DD} {t : Nat} {s : Nat} {x : Int32} {q : Nat} {l58 : List Nat} {l68 : List Nat} (ht : t < 6) (hs : s < 8) (hq : q < 8) (eq : I 16 s = nI q) (c0_7 : ¬ (I 5 t) = (nI s)) (v1_58 : cw_row (sh_u2 (sh_u2 I 10 t x) 6 t 0) q l58) (v2_58 : l58.length < 6) (v3_68 : ¬ (I 12 q) = 6) (v4_68 : cw_row (sp_ment (sh_u2 (sh_u2 I 10 t x) 6 t 0) q t l58) q l68) (v5_68 : sp_mvok q l68.length (sp_ment (sh_u2 (sh_u2 I 10 t x) 6 t 0) q t l58) (sh_u2 (sh_u2 D 7 t 13830554455654793216) 8 t ((sh_u2 D 7 t 13830554455654793216) 11 0)) l68) : sh_mM mq A md_Mod_queue [.ref mq, .int (nI t), .int (nI s), .int x] I D none (sp_mserve q l68.length (sp_ment (sh_u2 (sh_u2 I 10 t x) 6 t 0) q t l58) (sh_u2 (sh_u2 D 7 t 13830554455654793216) 8 t ((sh_u2 D 7 t 13830554455654793216) 11 0)) l68).1 (sp_mserve q l68.length (sp_ment (sh_u2 (sh_u2 I 10 t x) 6 t 0) q t l58) (sh_u2 (sh_u2 D 7 t 13830554455654793216) 8 t ((sh_u2 D 7 t 13830554455654793216) 11 0)) l68).2 := by
  refine sh_mp (fun w Z k => sh_aload_n dc_Mod_queue_0 rfl rfl k) ?_
  refine sh_mget 5 dc_Mod_queue_1 (by decide) fl_Mod_24 rfl rfl rfl rfl ?_
  refine sh_mp (fun w Z k => sh_iload_n dc_Mod_queue_4 rfl rfl k) ?_
  refine sh_miald 5 (l := 6) (k := t) dc_Mod_queue_5 (by decide) rfl (by omega) (by decide) ?_
  refine sh_mp (fun w Z k => sh_iload_n dc_Mod_queue_6 rfl rfl k) ?_
  refine sh_mp (fun w Z k => sh_icmp_ne (tgt := 27) dc_Mod_queue_7 (by decide) (fun _ => k) (fun z => absurd z c0_7)) ?_
  refine sh_mp (fun w Z k => sh_aload_n dc_Mod_queue_27 rfl rfl k) ?_
  refine sh_mget 10 dc_Mod_queue_28 (by decide) fl_Mod_39 rfl rfl rfl rfl ?_
  refine sh_mp (fun w Z k => sh_iload_n dc_Mod_queue_31 rfl rfl k) ?_
  refine sh_mp (fun w Z k => sh_iload_n dc_Mod_queue_32 rfl rfl k) ?_
  refine sh_miast 10 (l := 6) (k := t) dc_Mod_queue_33 (by decide) rfl (by omega) (by decide) ?_
  refine sh_mp (fun w Z k => sh_aload_n dc_Mod_queue_34 rfl rfl k) ?_
  refine sh_mget 7 dc_Mod_queue_35 (by decide) fl_Mod_30 rfl rfl rfl rfl ?_
  refine sh_mp (fun w Z k => sh_iload_n dc_Mod_queue_38 rfl rfl k) ?_
  refine sh_mp (fun w Z k => sh_ldc2d (v := 13830554455654793216) dc_Mod_queue_39 wd_973 k) ?_
  refine sh_mdast 7 (l := 6) (k := t) dc_Mod_queue_42 (by decide) rfl (by omega) (by decide) ?_
  refine sh_mp (fun w Z k => sh_aload_n dc_Mod_queue_43 rfl rfl k) ?_
  refine sh_mget 6 dc_Mod_queue_44 (by decide) fl_Mod_27 rfl rfl rfl rfl ?_
  refine sh_mp (fun w Z k => sh_iload_n dc_Mod_queue_47 rfl rfl k) ?_
  refine sh_mp (fun w Z k => sh_iconst (v := 0) dc_Mod_queue_48 (by decide) k) ?_
  refine sh_miast 6 (l := 6) (k := t) dc_Mod_queue_49 (by decide) rfl (by omega) (by decide) ?_
  refine sh_mp (fun w Z k => sh_aload_n dc_Mod_queue_50 rfl rfl k) ?_
  refine sh_mp (fun w Z k => sh_iload_n dc_Mod_queue_51 rfl rfl k) ?_
  refine sh_mp (fun w Z k => sh_aload_n dc_Mod_queue_52 rfl rfl k) ?_
  refine sh_mget 16 dc_Mod_queue_53 (by decide) fl_Mod_54 rfl rfl rfl rfl ?_
  refine sh_mp (fun w Z k => sh_iload_n dc_Mod_queue_56 rfl rfl k) ?_
  refine sh_miald 16 (l := 8) (k := s) dc_Mod_queue_57 (by decide) rfl (by omega) (by decide) ?_
  refine sh_mti (show (sh_u2 (sh_u2 I 10 t x) 6 t 0) 16 s = I 16 s from (Eq.trans (sh_u2_row (by decide) _) (sh_u2_row (by decide) _))) ?_
  refine sh_mstk (show ([.int (I 16 s), .int (nI t), .ref mq] : List Value) = [.int (nI q), .int (nI t), .ref mq] from by rw [eq]) ?_
  refine sh_mcall (As := [.int (nI t), .int (nI q)]) (fun w hw => by obtain ⟨fs, hw⟩ := hw; exact sh_virt dc_Mod_queue_58 lm_Mod_enter ln_Mod_118 wd_1008 wd_40 rfl rfl (Nat.le_of_ble_eq_true rfl) hw rfl) (ml_enter (t := t) (s := q) (l := l58) (by omega) (by omega) v1_58 v2_58) ⟨(Nat.le_of_ble_eq_true rfl), (Nat.le_of_ble_eq_true rfl), (Nat.le_of_ble_eq_true rfl), (Nat.le_of_ble_eq_true rfl)⟩ ?_
  show sh_mW _ _ _ (_, _, []) (sp_ment (sh_u2 (sh_u2 I 10 t x) 6 t 0) q t l58) (sh_u2 (sh_u2 D 7 t 13830554455654793216) 8 t ((sh_u2 D 7 t 13830554455654793216) 11 0)) _ _ _ _ _
  refine sh_mp (fun w Z k => sh_aload_n dc_Mod_queue_61 rfl rfl k) ?_
  refine sh_mp (fun w Z k => sh_aload_n dc_Mod_queue_62 rfl rfl k) ?_
  refine sh_mget 16 dc_Mod_queue_63 (by decide) fl_Mod_54 rfl rfl rfl rfl ?_
  refine sh_mp (fun w Z k => sh_iload_n dc_Mod_queue_66 rfl rfl k) ?_
  refine sh_miald 16 (l := 8) (k := s) dc_Mod_queue_67 (by decide) rfl (by omega) (by decide) ?_
  refine sh_mti (show (sp_ment (sh_u2 (sh_u2 I 10 t x) 6 t 0) q t l58) 16 s = I 16 s from (Eq.trans (sp_ment_keep (by decide) _) (Eq.trans (sh_u2_row (by decide) _) (sh_u2_row (by decide) _)))) ?_
  refine sh_mstk (show ([.int (I 16 s), .ref mq] : List Value) = [.int (nI q), .ref mq] from by rw [eq]) ?_
  refine sh_mcall (As := [.int (nI q)]) (fun w hw => by obtain ⟨fs, hw⟩ := hw; exact sh_virt dc_Mod_queue_68 lm_Mod_serve ln_Mod_121 wd_1016 wd_41 rfl rfl (Nat.le_of_ble_eq_true rfl) hw rfl) (ml_serve (s := q) (l := l68) (by omega) (Eq.mpr (by rw [(show (sp_ment (sh_u2 (sh_u2 I 10 t x) 6 t 0) q t l58) 12 q = I 12 q from (Eq.trans (sp_ment_keep (by decide) _) (Eq.trans (sh_u2_row (by decide) _) (sh_u2_row (by decide) _))))]) v3_68) v4_68 v5_68) ⟨(Nat.le_of_ble_eq_true rfl), (Nat.le_of_ble_eq_true rfl), (Nat.le_of_ble_eq_true rfl), (Nat.le_of_ble_eq_true rfl)⟩ ?_
  show sh_mW _ _ _ (_, _, []) (sp_mserve q l68.length (sp_ment (sh_u2 (sh_u2 I 10 t x) 6 t 0) q t l58) (sh_u2 (sh_u2 D 7 t 13830554455654793216) 8 t ((sh_u2 D 7 t 13830554455654793216) 11 0)) l68).1 (sp_mserve q l68.length (sp_ment (sh_u2 (sh_u2 I 10 t x) 6 t 0) q t l58) (sh_u2 (sh_u2 D 7 t 13830554455654793216) 8 t ((sh_u2 D 7 t 13830554455654793216) 11 0)) l68).2 _ _ _ _ _
  exact sh_me (fun w => sh_return dc_Mod_queue_71 rfl (by decide) (by decide))
theorem mx_Mod_checkCondition_q_1 {mq : Nat} {A : Nat → Nat} {I : sh_II} {D : sh_DD} {t : Nat} {s : Nat} {q : Nat} (ht : t < 6) (hs : s < 8) (hq : q < 8) (eq : I 16 s = nI q) (c0_3 : 0 ≤ (I 12 s)) (c1_3 : (I 1 t) = 0) (c2_21 : (I 12 s) = 6) (c3_38 : (I 13 q) = (nI t)) : sh_mM mq A md_Mod_checkCondition [.ref mq, .int (nI t), .int (nI s)] I D (some (.int 0)) I D := by
  refine sh_mp (fun w Z k => sh_aload_n dc_Mod_checkCondition_0 rfl rfl k) ?_
  refine sh_mp (fun w Z k => sh_iload_n dc_Mod_checkCondition_1 rfl rfl k) ?_
  refine sh_mp (fun w Z k => sh_iload_n dc_Mod_checkCondition_2 rfl rfl k) ?_
  refine sh_mcall (As := [.int (nI t), .int (nI s)]) (fun w hw => by obtain ⟨fs, hw⟩ := hw; exact sh_virt dc_Mod_checkCondition_3 lm_Mod_check ln_Mod_142 wd_976 wd_32 rfl rfl (Nat.le_of_ble_eq_true rfl) hw rfl) (mx_Mod_check_1 (t := t) (s := s) (by omega) (by omega) c0_3 c1_3) ⟨(Nat.le_of_ble_eq_true rfl), (Nat.le_of_ble_eq_true rfl), (Nat.le_of_ble_eq_true rfl), (Nat.le_of_ble_eq_true rfl)⟩ ?_
  show sh_mW _ _ _ (_, _, [.int 0]) I D _ _ _ _ _
  refine sh_mp (fun w Z k => sh_istore_n dc_Mod_checkCondition_6 rfl (by decide) k) ?_
  refine sh_mp (fun w Z k => sh_iload_n dc_Mod_checkCondition_7 rfl rfl k) ?_
  refine sh_mp (fun w Z k => sh_if_le (tgt := 13) dc_Mod_checkCondition_8 (by decide) (fun _ => k) (fun z => absurd (by decide) z)) ?_
  refine sh_mp (fun w Z k => sh_aload_n dc_Mod_checkCondition_13 rfl rfl k) ?_
  refine sh_mget 12 dc_Mod_checkCondition_14 (by decide) fl_Mod_42 rfl rfl rfl rfl ?_
  refine sh_mp (fun w Z k => sh_iload_n dc_Mod_checkCondition_17 rfl rfl k) ?_
  refine sh_miald 12 (l := 8) (k := s) dc_Mod_checkCondition_18 (by decide) rfl (by omega) (by decide) ?_
  refine sh_mp (fun w Z k => sh_bipush (v := 6) dc_Mod_checkCondition_19 (by decide) k) ?_
  refine sh_mp (fun w Z k => sh_icmp_eq (tgt := 26) dc_Mod_checkCondition_21 (by decide) (fun _ => k) (fun z => absurd c2_21 z)) ?_
  refine sh_mp (fun w Z k => sh_aload_n dc_Mod_checkCondition_26 rfl rfl k) ?_
  refine sh_mget 13 dc_Mod_checkCondition_27 (by decide) fl_Mod_45 rfl rfl rfl rfl ?_
  refine sh_mp (fun w Z k => sh_aload_n dc_Mod_checkCondition_30 rfl rfl k) ?_
  refine sh_mget 16 dc_Mod_checkCondition_31 (by decide) fl_Mod_54 rfl rfl rfl rfl ?_
  refine sh_mp (fun w Z k => sh_iload_n dc_Mod_checkCondition_34 rfl rfl k) ?_
  refine sh_miald 16 (l := 8) (k := s) dc_Mod_checkCondition_35 (by decide) rfl (by omega) (by decide) ?_
  refine sh_miald 13 (l := 8) (k := q) dc_Mod_checkCondition_36 (by decide) eq (by omega) (by decide) ?_
  refine sh_mp (fun w Z k => sh_iload_n dc_Mod_checkCondition_37 rfl rfl k) ?_
  refine sh_mp (fun w Z k => sh_icmp_eq (tgt := 45) dc_Mod_checkCondition_38 (by decide) (fun _ => k) (fun z => absurd c3_38 z)) ?_
  refine sh_mp (fun w Z k => sh_iconst (v := 0) dc_Mod_checkCondition_45 (by decide) k) ?_
  exact sh_me (fun w => sh_ireturn dc_Mod_checkCondition_46 rfl rfl (by decide) (by decide))
theorem mx_Mod_checkCondition_q_2 {mq : Nat} {A : Nat → Nat} {I : sh_II} {D : sh_DD} {t : Nat} {s : Nat} {q : Nat} (ht : t < 6) (hs : s < 8) (hq : q < 8) (eq : I 16 s = nI q) (c0_3 : 0 ≤ (I 12 s)) (c1_3 : (I 1 t) = 0) (c2_21 : (I 12 s) = 6) (c3_38 : ¬ (I 13 q) = (nI t)) : sh_mM mq A md_Mod_checkCondition [.ref mq, .int (nI t), .int (nI s)] I D (some (.int 3)) I D := by
  refine sh_mp (fun w Z k => sh_aload_n dc_Mod_checkCondition_0 rfl rfl k) ?_
  refine sh_mp (fun w Z k => sh_iload_n dc_Mod_checkCondition_1 rfl rfl k) ?_
  refine sh_mp (fun w Z k => sh_iload_n dc_Mod_checkCondition_2 rfl rfl k) ?_
  refine sh_mcall (As := [.int (nI t), .int (nI s)]) (fun w hw => by obtain ⟨fs, hw⟩ := hw; exact sh_virt dc_Mod_checkCondition_3 lm_Mod_check ln_Mod_142 wd_976 wd_32 rfl rfl (Nat.le_of_ble_eq_true rfl) hw rfl) (mx_Mod_check_1 (t := t) (s := s) (by omega) (by omega) c0_3 c1_3) ⟨(Nat.le_of_ble_eq_true rfl), (Nat.le_of_ble_eq_true rfl), (Nat.le_of_ble_eq_true rfl), (Nat.le_of_ble_eq_true rfl)⟩ ?_
  show sh_mW _ _ _ (_, _, [.int 0]) I D _ _ _ _ _
  refine sh_mp (fun w Z k => sh_istore_n dc_Mod_checkCondition_6 rfl (by decide) k) ?_
  refine sh_mp (fun w Z k => sh_iload_n dc_Mod_checkCondition_7 rfl rfl k) ?_
  refine sh_mp (fun w Z k => sh_if_le (tgt := 13) dc_Mod_checkCondition_8 (by decide) (fun _ => k) (fun z => absurd (by decide) z)) ?_
  refine sh_mp (fun w Z k => sh_aload_n dc_Mod_checkCondition_13 rfl rfl k) ?_
  refine sh_mget 12 dc_Mod_checkCondition_14 (by decide) fl_Mod_42 rfl rfl rfl rfl ?_
  refine sh_mp (fun w Z k => sh_iload_n dc_Mod_checkCondition_17 rfl rfl k) ?_
  refine sh_miald 12 (l := 8) (k := s) dc_Mod_checkCondition_18 (by decide) rfl (by omega) (by decide) ?_
  refine sh_mp (fun w Z k => sh_bipush (v := 6) dc_Mod_checkCondition_19 (by decide) k) ?_
  refine sh_mp (fun w Z k => sh_icmp_eq (tgt := 26) dc_Mod_checkCondition_21 (by decide) (fun _ => k) (fun z => absurd c2_21 z)) ?_
  refine sh_mp (fun w Z k => sh_aload_n dc_Mod_checkCondition_26 rfl rfl k) ?_
  refine sh_mget 13 dc_Mod_checkCondition_27 (by decide) fl_Mod_45 rfl rfl rfl rfl ?_
  refine sh_mp (fun w Z k => sh_aload_n dc_Mod_checkCondition_30 rfl rfl k) ?_
  refine sh_mget 16 dc_Mod_checkCondition_31 (by decide) fl_Mod_54 rfl rfl rfl rfl ?_
  refine sh_mp (fun w Z k => sh_iload_n dc_Mod_checkCondition_34 rfl rfl k) ?_
  refine sh_miald 16 (l := 8) (k := s) dc_Mod_checkCondition_35 (by decide) rfl (by omega) (by decide) ?_
  refine sh_miald 13 (l := 8) (k := q) dc_Mod_checkCondition_36 (by decide) eq (by omega) (by decide) ?_
  refine sh_mp (fun w Z k => sh_iload_n dc_Mod_checkCondition_37 rfl rfl k) ?_
  refine sh_mp (fun w Z k => sh_icmp_eq (tgt := 45) dc_Mod_checkCondition_38 (by decide) (fun z => absurd z c3_38) (fun _ => k)) ?_
  refine sh_mp (fun w Z k => sh_iconst (v := 3) dc_Mod_checkCondition_41 (by decide) k) ?_
  refine sh_mp (fun w Z k => sh_goto_ (tgt := 46) dc_Mod_checkCondition_42 (by decide) k) ?_
  exact sh_me (fun w => sh_ireturn dc_Mod_checkCondition_46 rfl rfl (by decide) (by decide))
theorem mx_Mod_checkCondition_q_3 {mq : Nat} {A : Nat → Nat} {I : sh_II} {D : sh_DD} {t : Nat} {s : Nat} {q : Nat} (ht : t < 6) (hs : s < 8) (hq : q < 8) (eq : I 16 s = nI q) (c0_3 : 0 ≤ (I 12 s)) (c1_3 : (I 1 t) = 0) (c2_21 : ¬ (I 12 s) = 6) : sh_mM mq A md_Mod_checkCondition [.ref mq, .int (nI t), .int (nI s)] I D (some (.int 4)) I D := by
  refine sh_mp (fun w Z k => sh_aload_n dc_Mod_checkCondition_0 rfl rfl k) ?_
  refine sh_mp (fun w Z k => sh_iload_n dc_Mod_checkCondition_1 rfl rfl k) ?_
  refine sh_mp (fun w Z k => sh_iload_n dc_Mod_checkCondition_2 rfl rfl k) ?_
  refine sh_mcall (As := [.int (nI t), .int (nI s)]) (fun w hw => by obtain ⟨fs, hw⟩ := hw; exact sh_virt dc_Mod_checkCondition_3 lm_Mod_check ln_Mod_142 wd_976 wd_32 rfl rfl (Nat.le_of_ble_eq_true rfl) hw rfl) (mx_Mod_check_1 (t := t) (s := s) (by omega) (by omega) c0_3 c1_3) ⟨(Nat.le_of_ble_eq_true rfl), (Nat.le_of_ble_eq_true rfl), (Nat.le_of_ble_eq_true rfl), (Nat.le_of_ble_eq_true rfl)⟩ ?_
  show sh_mW _ _ _ (_, _, [.int 0]) I D _ _ _ _ _
  refine sh_mp (fun w Z k => sh_istore_n dc_Mod_checkCondition_6 rfl (by decide) k) ?_
  refine sh_mp (fun w Z k => sh_iload_n dc_Mod_checkCondition_7 rfl rfl k) ?_
  refine sh_mp (fun w Z k => sh_if_le (tgt := 13) dc_Mod_checkCondition_8 (by decide) (fun _ => k) (fun z => absurd (by decide) z)) ?_
  refine sh_mp (fun w Z k => sh_aload_n dc_Mod_checkCondition_13 rfl rfl k) ?_
  refine sh_mget 12 dc_Mod_checkCondition_14 (by decide) fl_Mod_42 rfl rfl rfl rfl ?_
  refine sh_mp (fun w Z k => sh_iload_n dc_Mod_checkCondition_17 rfl rfl k) ?_
  refine sh_miald 12 (l := 8) (k := s) dc_Mod_checkCondition_18 (by decide) rfl (by omega) (by decide) ?_
  refine sh_mp (fun w Z k => sh_bipush (v := 6) dc_Mod_checkCondition_19 (by decide) k) ?_
  refine sh_mp (fun w Z k => sh_icmp_eq (tgt := 26) dc_Mod_checkCondition_21 (by decide) (fun z => absurd z c2_21) (fun _ => k)) ?_
  refine sh_mp (fun w Z k => sh_iconst (v := 4) dc_Mod_checkCondition_24 (by decide) k) ?_
  exact sh_me (fun w => sh_ireturn dc_Mod_checkCondition_25 rfl rfl (by decide) (by decide))
theorem mx_Mod_checkCondition_q_4 {mq : Nat} {A : Nat → Nat} {I : sh_II} {D : sh_DD} {t : Nat} {s : Nat} {q : Nat} (ht : t < 6) (hs : s < 8) (hq : q < 8) (eq : I 16 s = nI q) (c0_3 : 0 ≤ (I 12 s)) (c1_3 : ¬ (I 1 t) = 0) : sh_mM mq A md_Mod_checkCondition [.ref mq, .int (nI t), .int (nI s)] I D (some (.int 3)) I D := by
  refine sh_mp (fun w Z k => sh_aload_n dc_Mod_checkCondition_0 rfl rfl k) ?_
  refine sh_mp (fun w Z k => sh_iload_n dc_Mod_checkCondition_1 rfl rfl k) ?_
  refine sh_mp (fun w Z k => sh_iload_n dc_Mod_checkCondition_2 rfl rfl k) ?_
  refine sh_mcall (As := [.int (nI t), .int (nI s)]) (fun w hw => by obtain ⟨fs, hw⟩ := hw; exact sh_virt dc_Mod_checkCondition_3 lm_Mod_check ln_Mod_142 wd_976 wd_32 rfl rfl (Nat.le_of_ble_eq_true rfl) hw rfl) (mx_Mod_check_2 (t := t) (s := s) (by omega) (by omega) c0_3 c1_3) ⟨(Nat.le_of_ble_eq_true rfl), (Nat.le_of_ble_eq_true rfl), (Nat.le_of_ble_eq_true rfl), (Nat.le_of_ble_eq_true rfl)⟩ ?_
  show sh_mW _ _ _ (_, _, [.int 3]) I D _ _ _ _ _
  refine sh_mp (fun w Z k => sh_istore_n dc_Mod_checkCondition_6 rfl (by decide) k) ?_
  refine sh_mp (fun w Z k => sh_iload_n dc_Mod_checkCondition_7 rfl rfl k) ?_
  refine sh_mp (fun w Z k => sh_if_le (tgt := 13) dc_Mod_checkCondition_8 (by decide) (fun z => absurd z (by decide)) (fun _ => k)) ?_
  refine sh_mp (fun w Z k => sh_iload_n dc_Mod_checkCondition_11 rfl rfl k) ?_
  exact sh_me (fun w => sh_ireturn dc_Mod_checkCondition_12 rfl rfl (by decide) (by decide))
theorem mx_Mod_checkCondition_q_5 {mq : Nat} {A : Nat → Nat} {I : sh_II} {D : sh_DD} {t : Nat} {s : Nat} {q : Nat} (ht : t < 6) (hs : s < 8) (hq : q < 8) (eq : I 16 s = nI q) (c0_3 : ¬ 0 ≤ (I 12 s)) : sh_mM mq A md_Mod_checkCondition [.ref mq, .int (nI t), .int (nI s)] I D (some (.int 2)) I D := by
  refine sh_mp (fun w Z k => sh_aload_n dc_Mod_checkCondition_0 rfl rfl k) ?_
  refine sh_mp (fun w Z k => sh_iload_n dc_Mod_checkCondition_1 rfl rfl k) ?_
  refine sh_mp (fun w Z k => sh_iload_n dc_Mod_checkCondition_2 rfl rfl k) ?_
  refine sh_mcall (As := [.int (nI t), .int (nI s)]) (fun w hw => by obtain ⟨fs, hw⟩ := hw; exact sh_virt dc_Mod_checkCondition_3 lm_Mod_check ln_Mod_142 wd_976 wd_32 rfl rfl (Nat.le_of_ble_eq_true rfl) hw rfl) (mx_Mod_check_3 (t := t) (s := s) (by omega) (by omega) c0_3) ⟨(Nat.le_of_ble_eq_true rfl), (Nat.le_of_ble_eq_true rfl), (Nat.le_of_ble_eq_true rfl), (Nat.le_of_ble_eq_true rfl)⟩ ?_
  show sh_mW _ _ _ (_, _, [.int 2]) I D _ _ _ _ _
  refine sh_mp (fun w Z k => sh_istore_n dc_Mod_checkCondition_6 rfl (by decide) k) ?_
  refine sh_mp (fun w Z k => sh_iload_n dc_Mod_checkCondition_7 rfl rfl k) ?_
  refine sh_mp (fun w Z k => sh_if_le (tgt := 13) dc_Mod_checkCondition_8 (by decide) (fun z => absurd z (by decide)) (fun _ => k)) ?_
  refine sh_mp (fun w Z k => sh_iload_n dc_Mod_checkCondition_11 rfl rfl k) ?_
  exact sh_me (fun w => sh_ireturn dc_Mod_checkCondition_12 rfl rfl (by decide) (by decide))
theorem mx_Mod_checkCondition_n_1 {mq : Nat} {A : Nat → Nat} {I : sh_II} {D : sh_DD} {t : Nat} {s : Nat} (ht : t < 6) (hs : s < 8) (hz : ¬ (I 12 s) = 6) (c0_3 : 0 ≤ (I 12 s)) (c1_3 : (I 1 t) = 0) : sh_mM mq A md_Mod_checkCondition [.ref mq, .int (nI t), .int (nI s)] I D (some (.int 4)) I D := by
  refine sh_mp (fun w Z k => sh_aload_n dc_Mod_checkCondition_0 rfl rfl k) ?_
  refine sh_mp (fun w Z k => sh_iload_n dc_Mod_checkCondition_1 rfl rfl k) ?_
  refine sh_mp (fun w Z k => sh_iload_n dc_Mod_checkCondition_2 rfl rfl k) ?_
  refine sh_mcall (As := [.int (nI t), .int (nI s)]) (fun w hw => by obtain ⟨fs, hw⟩ := hw; exact sh_virt dc_Mod_checkCondition_3 lm_Mod_check ln_Mod_142 wd_976 wd_32 rfl rfl (Nat.le_of_ble_eq_true rfl) hw rfl) (mx_Mod_check_1 (t := t) (s := s) (by omega) (by omega) c0_3 c1_3) ⟨(Nat.le_of_ble_eq_true rfl), (Nat.le_of_ble_eq_true rfl), (Nat.le_of_ble_eq_true rfl), (Nat.le_of_ble_eq_true rfl)⟩ ?_
  show sh_mW _ _ _ (_, _, [.int 0]) I D _ _ _ _ _
  refine sh_mp (fun w Z k => sh_istore_n dc_Mod_checkCondition_6 rfl (by decide) k) ?_
  refine sh_mp (fun w Z k => sh_iload_n dc_Mod_checkCondition_7 rfl rfl k) ?_
  refine sh_mp (fun w Z k => sh_if_le (tgt := 13) dc_Mod_checkCondition_8 (by decide) (fun _ => k) (fun z => absurd (by decide) z)) ?_
  refine sh_mp (fun w Z k => sh_aload_n dc_Mod_checkCondition_13 rfl rfl k) ?_
  refine sh_mget 12 dc_Mod_checkCondition_14 (by decide) fl_Mod_42 rfl rfl rfl rfl ?_
  refine sh_mp (fun w Z k => sh_iload_n dc_Mod_checkCondition_17 rfl rfl k) ?_
  refine sh_miald 12 (l := 8) (k := s) dc_Mod_checkCondition_18 (by decide) rfl (by omega) (by decide) ?_
  refine sh_mp (fun w Z k => sh_bipush (v := 6) dc_Mod_checkCondition_19 (by decide) k) ?_
  refine sh_mp (fun w Z k => sh_icmp_eq (tgt := 26) dc_Mod_checkCondition_21 (by decide) (fun z => absurd z hz) (fun _ => k)) ?_
  refine sh_mp (fun w Z k => sh_iconst (v := 4) dc_Mod_checkCondition_24 (by decide) k) ?_
  exact sh_me (fun w => sh_ireturn dc_Mod_checkCondition_25 rfl rfl (by decide) (by decide))
theorem mx_Mod_checkCondition_n_2 {mq : Nat} {A : Nat → Nat} {I : sh_II} {D : sh_DD} {t : Nat} {s : Nat} (ht : t < 6) (hs : s < 8) (hz : ¬ (I 12 s) = 6) (c0_3 : 0 ≤ (I 12 s)) (c1_3 : ¬ (I 1 t) = 0) : sh_mM mq A md_Mod_checkCondition [.ref mq, .int (nI t), .int (nI s)] I D (some (.int 3)) I D := by
  refine sh_mp (fun w Z k => sh_aload_n dc_Mod_checkCondition_0 rfl rfl k) ?_
  refine sh_mp (fun w Z k => sh_iload_n dc_Mod_checkCondition_1 rfl rfl k) ?_
  refine sh_mp (fun w Z k => sh_iload_n dc_Mod_checkCondition_2 rfl rfl k) ?_
  refine sh_mcall (As := [.int (nI t), .int (nI s)]) (fun w hw => by obtain ⟨fs, hw⟩ := hw; exact sh_virt dc_Mod_checkCondition_3 lm_Mod_check ln_Mod_142 wd_976 wd_32 rfl rfl (Nat.le_of_ble_eq_true rfl) hw rfl) (mx_Mod_check_2 (t := t) (s := s) (by omega) (by omega) c0_3 c1_3) ⟨(Nat.le_of_ble_eq_true rfl), (Nat.le_of_ble_eq_true rfl), (Nat.le_of_ble_eq_true rfl), (Nat.le_of_ble_eq_true rfl)⟩ ?_
  show sh_mW _ _ _ (_, _, [.int 3]) I D _ _ _ _ _
  refine sh_mp (fun w Z k => sh_istore_n dc_Mod_checkCondition_6 rfl (by decide) k) ?_
  refine sh_mp (fun w Z k => sh_iload_n dc_Mod_checkCondition_7 rfl rfl k) ?_
  refine sh_mp (fun w Z k => sh_if_le (tgt := 13) dc_Mod_checkCondition_8 (by decide) (fun z => absurd z (by decide)) (fun _ => k)) ?_
  refine sh_mp (fun w Z k => sh_iload_n dc_Mod_checkCondition_11 rfl rfl k) ?_
  exact sh_me (fun w => sh_ireturn dc_Mod_checkCondition_12 rfl rfl (by decide) (by decide))
theorem mx_Mod_checkCondition_n_3 {mq : Nat} {A : Nat → Nat} {I : sh_II} {D : sh_DD} {t : Nat} {s : Nat} (ht : t < 6) (hs : s < 8) (hz : ¬ (I 12 s) = 6) (c0_3 : ¬ 0 ≤ (I 12 s)) : sh_mM mq A md_Mod_checkCondition [.ref mq, .int (nI t), .int (nI s)] I D (some (.int 2)) I D := by
  refine sh_mp (fun w Z k => sh_aload_n dc_Mod_checkCondition_0 rfl rfl k) ?_
  refine sh_mp (fun w Z k => sh_iload_n dc_Mod_checkCondition_1 rfl rfl k) ?_
  refine sh_mp (fun w Z k => sh_iload_n dc_Mod_checkCondition_2 rfl rfl k) ?_
  refine sh_mcall (As := [.int (nI t), .int (nI s)]) (fun w hw => by obtain ⟨fs, hw⟩ := hw; exact sh_virt dc_Mod_checkCondition_3 lm_Mod_check ln_Mod_142 wd_976 wd_32 rfl rfl (Nat.le_of_ble_eq_true rfl) hw rfl) (mx_Mod_check_3 (t := t) (s := s) (by omega) (by omega) c0_3) ⟨(Nat.le_of_ble_eq_true rfl), (Nat.le_of_ble_eq_true rfl), (Nat.le_of_ble_eq_true rfl), (Nat.le_of_ble_eq_true rfl)⟩ ?_
  show sh_mW _ _ _ (_, _, [.int 2]) I D _ _ _ _ _
  refine sh_mp (fun w Z k => sh_istore_n dc_Mod_checkCondition_6 rfl (by decide) k) ?_
  refine sh_mp (fun w Z k => sh_iload_n dc_Mod_checkCondition_7 rfl rfl k) ?_
  refine sh_mp (fun w Z k => sh_if_le (tgt := 13) dc_Mod_checkCondition_8 (by decide) (fun z => absurd z (by decide)) (fun _ => k)) ?_
  refine sh_mp (fun w Z k => sh_iload_n dc_Mod_checkCondition_11 rfl rfl k) ?_
  exact sh_me (fun w => sh_ireturn dc_Mod_checkCondition_12 rfl rfl (by decide) (by decide))
