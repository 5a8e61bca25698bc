theorem mb_Mod_serve_c_0_1 {mq : Nat} {A : Nat → Nat} {I : sh_II} {D : sh_DD} {s : Nat} (hs : s < 8) (hz : (I 12 s) = 6) : sh_mW mq A md_Mod_serve (0, [(0, .ref mq), (1, .int (nI s))], []) I D 0 0 none I D := by
  refine sh_mp (fun w Z k => sh_aload_n dc_Mod_serve_0 rfl rfl k) ?_
  refine sh_mget 12 dc_Mod_serve_1 (by decide) fl_Mod_42 rfl rfl rfl rfl ?_
  refine sh_mp (fun w Z k => sh_iload_n dc_Mod_serve_4 rfl rfl k) ?_
  refine sh_miald 12 (l := 8) (k := s) dc_Mod_serve_5 (by decide) rfl (by omega) (by decide) ?_
  refine sh_mp (fun w Z k => sh_bipush (v := 6) dc_Mod_serve_6 (by decide) k) ?_
  refine sh_mp (fun w Z k => sh_icmp_eq (tgt := 139) dc_Mod_serve_8 (by decide) (fun _ => k) (fun z => absurd hz z)) ?_
  exact sh_me (fun w => sh_return dc_Mod_serve_139 rfl (by decide) (by decide))
theorem mb_Mod_serve_e_0_1 {mq : Nat} {A : Nat → Nat} {I : sh_II} {D : sh_DD} {s : Nat} (hs : s < 8) (hz : ¬ (I 12 s) = 6) (hy : (I 19 s) ≤ 0) : sh_mW mq A md_Mod_serve (0, [(0, .ref mq), (1, .int (nI s))], []) I D 0 0 none I D := by
  refine sh_mp (fun w Z k => sh_aload_n dc_Mod_serve_0 rfl rfl k) ?_
  refine sh_mget 12 dc_Mod_serve_1 (by decide) fl_Mod_42 rfl rfl rfl rfl ?_
  refine sh_mp (fun w Z k => sh_iload_n dc_Mod_serve_4 rfl rfl k) ?_
  refine sh_miald 12 (l := 8) (k := s) dc_Mod_serve_5 (by decide) rfl (by omega) (by decide) ?_
  refine sh_mp (fun w Z k => sh_bipush (v := 6) dc_Mod_serve_6 (by decide) k) ?_
  refine sh_mp (fun w Z k => sh_icmp_eq (tgt := 139) dc_Mod_serve_8 (by decide) (fun z => absurd z hz) (fun _ => k)) ?_
  refine sh_mp (fun w Z k => sh_aload_n dc_Mod_serve_11 rfl rfl k) ?_
  refine sh_mget 19 dc_Mod_serve_12 (by decide) fl_Mod_63 rfl rfl rfl rfl ?_
  refine sh_mp (fun w Z k => sh_iload_n dc_Mod_serve_15 rfl rfl k) ?_
  refine sh_miald 19 (l := 8) (k := s) dc_Mod_serve_16 (by decide) rfl (by omega) (by decide) ?_
  refine sh_mp (fun w Z k => sh_if_le (tgt := 139) dc_Mod_serve_17 (by decide) (fun _ => k) (fun z => absurd hy z)) ?_
  exact sh_me (fun w => sh_return dc_Mod_serve_139 rfl (by decide) (by decide))
theorem mb_Mod_serve_0_1 {mq : Nat} {A : Nat → Nat} {I : sh_II} {D : sh_DD} {s : Nat} {l : List Nat} {u22 : Nat} (hs : s < 8) (hz : ¬ (I 12 s) = 6) (hy : ¬ (I 19 s) ≤ 0) (hr : cw_row I s l) (hn : l.Nodup) (hm : ∀ v ∈ l, I 6 v = 0 ∨ I 6 v = 1) (hu22 : u22 < 6) (c1_22 : sp_nx I D s l = some u22) (c2_38 : (sp_b (sp_can I u22 s (I 6 u22))) = 0) : sh_mW mq A md_Mod_serve (0, [(0, .ref mq), (1, .int (nI s))], []) I D 0 0 none I D := by
  refine sh_mp (fun w Z k => sh_aload_n dc_Mod_serve_0 rfl rfl k) ?_
  refine sh_mget 12 dc_Mod_serve_1 (by decide) fl_Mod_42 rfl rfl rfl rfl ?_
  refine sh_mp (fun w Z k => sh_iload_n dc_Mod_serve_4 rfl rfl k) ?_
  refine sh_miald 12 (l := 8) (k := s) dc_Mod_serve_5 (by decide) rfl (by omega) (by decide) ?_
  refine sh_mp (fun w Z k => sh_bipush (v := 6) dc_Mod_serve_6 (by decide) k) ?_
  refine sh_mp (fun w Z k => sh_icmp_eq (tgt := 139) dc_Mod_serve_8 (by decide) (fun z => absurd z hz) (fun _ => k)) ?_
  refine sh_mp (fun w Z k => sh_aload_n dc_Mod_serve_11 rfl rfl k) ?_
  refine sh_mget 19 dc_Mod_serve_12 (by decide) fl_Mod_63 rfl rfl rfl rfl ?_
  refine sh_mp (fun w Z k => sh_iload_n dc_Mod_serve_15 rfl rfl k) ?_
  refine sh_miald 19 (l := 8) (k := s) dc_Mod_serve_16 (by decide) rfl (by omega) (by decide) ?_
  refine sh_mp (fun w Z k => sh_if_le (tgt := 139) dc_Mod_serve_17 (by decide) (fun z => absurd z hy) (fun _ => k)) ?_
  refine sh_mp (fun w Z k => sh_aload_n dc_Mod_serve_20 rfl rfl k) ?_
  refine sh_mp (fun w Z k => sh_iload_n dc_Mod_serve_21 rfl rfl k) ?_
  refine sh_mcall (As := [.int (nI s)]) (fun w hw => by obtain ⟨fs, hw⟩ := hw; exact sh_virt dc_Mod_serve_22 lm_Mod_next ln_Mod_98 wd_1020 wd_42 rfl rfl (Nat.le_of_ble_eq_true rfl) hw rfl) (ml_next (s := s) (l := l) (u := u22) (by omega) hr hm c1_22) ⟨(Nat.le_of_ble_eq_true rfl), (Nat.le_of_ble_eq_true rfl), (Nat.le_of_ble_eq_true rfl), (Nat.le_of_ble_eq_true rfl)⟩ ?_
  show sh_mW _ _ _ (_, _, [.int (nI u22)]) I D _ _ _ _ _
  refine sh_mp (fun w Z k => sh_istore_n dc_Mod_serve_25 rfl (by decide) k) ?_
  refine sh_mp (fun w Z k => sh_aload_n dc_Mod_serve_26 rfl rfl k) ?_
  refine sh_mp (fun w Z k => sh_iload_n dc_Mod_serve_27 rfl rfl k) ?_
  refine sh_mp (fun w Z k => sh_iload_n dc_Mod_serve_28 rfl rfl k) ?_
  refine sh_mp (fun w Z k => sh_aload_n dc_Mod_serve_29 rfl rfl k) ?_
  refine sh_mget 6 dc_Mod_serve_30 (by decide) fl_Mod_27 rfl rfl rfl rfl ?_
  refine sh_mp (fun w Z k => sh_iload_n dc_Mod_serve_33 rfl rfl k) ?_
  refine sh_miald 6 (l := 6) (k := u22) dc_Mod_serve_34 (by decide) rfl (by omega) (by decide) ?_
  refine sh_mcall (As := [.int (nI u22), .int (nI s), .int (I 6 u22)]) (fun w hw => by obtain ⟨fs, hw⟩ := hw; exact sh_virt dc_Mod_serve_35 lm_Mod_canTake ln_Mod_101 wd_1000 wd_38 rfl rfl (Nat.le_of_ble_eq_true rfl) hw rfl) (ml_can (t := u22) (s := s) (m := I 6 u22) (by omega) (by omega)) ⟨(Nat.le_of_ble_eq_true rfl), (Nat.le_of_ble_eq_true rfl), (Nat.le_of_ble_eq_true rfl), (Nat.le_of_ble_eq_true rfl)⟩ ?_
  show sh_mW _ _ _ (_, _, [.int (sp_b (sp_can I u22 s (I 6 u22)))]) I D _ _ _ _ _
  refine sh_mp (fun w Z k => sh_if_ne (tgt := 42) dc_Mod_serve_38 (by decide) (fun z => absurd c2_38 z) (fun _ => k)) ?_
  exact sh_me (fun w => sh_return dc_Mod_serve_41 rfl (by decide) (by decide))
theorem mb_Mod_serve_0_2 {mq : Nat} {A : Nat → Nat} {I I9 : sh_II} {D D9 : sh_DD} {v9 : Option Value} {s : Nat} {l : List Nat} {u22 : Nat} (hs : s < 8) (hz : ¬ (I 12 s) = 6) (hy : ¬ (I 19 s) ≤ 0) (hr : cw_row I s l) (hn : l.Nodup) (hm : ∀ v ∈ l, I 6 v = 0 ∨ I 6 v = 1) (hu22 : u22 < 6) (c1_22 : sp_nx I D s l = some u22) (c2_38 : ¬ (sp_b (sp_can I u22 s (I 6 u22))) = 0) (v3_45 : u22 ∈ l) (v4_51 : vf_n64 (FP.dsub (D 11 0) (D 8 u22))) (v5_51 : vf_n64 (FP.dadd (D 20 s) (FP.dsub (D 11 0) (D 8 u22)))) (c6_72 : (I 9 u22) ≤ 0) (k9 : sh_mW mq A md_Mod_serve (0, [(0, .ref mq), (1, .int (nI s))], []) (sp_mtk (sh_u2 (sh_u2 (sh_u2 (sp_mrem I s u22 l) 21 s ((I 21 s) + 1)) 1 u22 0) 4 u22 1) u22 s (I 6 u22)) (sh_u2 D 20 s (FP.dadd (D 20 s) (FP.dsub (D 11 0) (D 8 u22)))) 0 0 v9 I9 D9) : sh_mW mq A md_Mod_serve (0, [(0, .ref mq), (1, .int (nI s))], []) I D 0 0 v9 I9 D9 := by
  refine sh_mp (fun w Z k => sh_aload_n dc_Mod_serve_0 rfl rfl k) ?_
  refine sh_mget 12 dc_Mod_serve_1 (by decide) fl_Mod_42 rfl rfl rfl rfl ?_
  refine sh_mp (fun w Z k => sh_iload_n dc_Mod_serve_4 rfl rfl k) ?_
  refine sh_miald 12 (l := 8) (k := s) dc_Mod_serve_5 (by decide) rfl (by omega) (by decide) ?_
  refine sh_mp (fun w Z k => sh_bipush (v := 6) dc_Mod_serve_6 (by decide) k) ?_
  refine sh_mp (fun w Z k => sh_icmp_eq (tgt := 139) dc_Mod_serve_8 (by decide) (fun z => absurd z hz) (fun _ => k)) ?_
  refine sh_mp (fun w Z k => sh_aload_n dc_Mod_serve_11 rfl rfl k) ?_
  refine sh_mget 19 dc_Mod_serve_12 (by decide) fl_Mod_63 rfl rfl rfl rfl ?_
  refine sh_mp (fun w Z k => sh_iload_n dc_Mod_serve_15 rfl rfl k) ?_
  refine sh_miald 19 (l := 8) (k := s) dc_Mod_serve_16 (by decide) rfl (by omega) (by decide) ?_
  refine sh_mp (fun w Z k => sh_if_le (tgt := 139) dc_Mod_serve_17 (by decide) (fun z => absurd z hy) (fun _ => k)) ?_
  refine sh_mp (fun w Z k => sh_aload_n dc_Mod_serve_20 rfl rfl k) ?_
  refine sh_mp (fun w Z k => sh_iload_n dc_Mod_serve_21 rfl rfl k) ?_
  refine sh_mcall (As := [.int (nI s)]) (fun w hw => by obtain ⟨fs, hw⟩ := hw; exact sh_virt dc_Mod_serve_22 lm_Mod_next ln_Mod_98 wd_1020 wd_42 rfl rfl (Nat.le_of_ble_eq_true rfl) hw rfl) (ml_next (s := s) (l := l) (u := u22) (by omega) hr hm c1_22) ⟨(Nat.le_of_ble_eq_true rfl), (Nat.le_of_ble_eq_true rfl), (Nat.le_of_ble_eq_true rfl), (Nat.le_of_ble_eq_true rfl)⟩ ?_
  show sh_mW _ _ _ (_, _, [.int (nI u22)]) I D _ _ _ _ _
  refine sh_mp (fun w Z k => sh_istore_n dc_Mod_serve_25 rfl (by decide) k) ?_
  refine sh_mp (fun w Z k => sh_aload_n dc_Mod_serve_26 rfl rfl k) ?_
  refine sh_mp (fun w Z k => sh_iload_n dc_Mod_serve_27 rfl rfl k) ?_
  refine sh_mp (fun w Z k => sh_iload_n dc_Mod_serve_28 rfl rfl k) ?_
  refine sh_mp (fun w Z k => sh_aload_n dc_Mod_serve_29 rfl rfl k) ?_
  refine sh_mget 6 dc_Mod_serve_30 (by decide) fl_Mod_27 rfl rfl rfl rfl ?_
  refine sh_mp (fun w Z k => sh_iload_n dc_Mod_serve_33 rfl rfl k) ?_
  refine sh_miald 6 (l := 6) (k := u22) dc_Mod_serve_34 (by decide) rfl (by omega) (by decide) ?_
  refine sh_mcall (As := [.int (nI u22), .int (nI s), .int (I 6 u22)]) (fun w hw => by obtain ⟨fs, hw⟩ := hw; exact sh_virt dc_Mod_serve_35 lm_Mod_canTake ln_Mod_101 wd_1000 wd_38 rfl rfl (Nat.le_of_ble_eq_true rfl) hw rfl) (ml_can (t := u22) (s := s) (m := I 6 u22) (by omega) (by omega)) ⟨(Nat.le_of_ble_eq_true rfl), (Nat.le_of_ble_eq_true rfl), (Nat.le_of_ble_eq_true rfl), (Nat.le_of_ble_eq_true rfl)⟩ ?_
  show sh_mW _ _ _ (_, _, [.int (sp_b (sp_can I u22 s (I 6 u22)))]) I D _ _ _ _ _
  refine sh_mp (fun w Z k => sh_if_ne (tgt := 42) dc_Mod_serve_38 (by decide) (fun _ => k) (fun z => absurd z c2_38)) ?_
  refine sh_mp (fun w Z k => sh_aload_n dc_Mod_serve_42 rfl rfl k) ?_
  refine sh_mp (fun w Z k => sh_iload_n dc_Mod_serve_43 rfl rfl k) ?_
  refine sh_mp (fun w Z k => sh_iload_n dc_Mod_serve_44 rfl rfl k) ?_
  refine sh_mcall (As := [.int (nI u22), .int (nI s)]) (fun w hw => by obtain ⟨fs, hw⟩ := hw; exact sh_virt dc_Mod_serve_45 lm_Mod_remove ln_Mod_105 wd_1024 wd_43 rfl rfl (Nat.le_of_ble_eq_true rfl) hw rfl) (ml_remove (t := u22) (s := s) (l := l) (by omega) (by omega) hr hn v3_45) ⟨(Nat.le_of_ble_eq_true rfl), (Nat.le_of_ble_eq_true rfl), (Nat.le_of_ble_eq_true rfl), (Nat.le_of_ble_eq_true rfl)⟩ ?_
  show sh_mW _ _ _ (_, _, []) (sp_mrem I s u22 l) D _ _ _ _ _
  refine sh_mp (fun w Z k => sh_aload_n dc_Mod_serve_48 rfl rfl k) ?_
  refine sh_mp (fun w Z k => sh_iload_n dc_Mod_serve_49 rfl rfl k) ?_
  refine sh_mp (fun w Z k => sh_iload_n dc_Mod_serve_50 rfl rfl k) ?_
  refine sh_mcall (As := [.int (nI u22), .int (nI s)]) (fun w hw => by obtain ⟨fs, hw⟩ := hw; exact sh_virt dc_Mod_serve_51 lm_Mod_addWaited ln_Mod_109 wd_1028 wd_44 rfl rfl (Nat.le_of_ble_eq_true rfl) hw rfl) (mx_Mod_addWaited_1 (t := u22) (s := s) (by omega) (by omega) v4_51 v5_51) ⟨(Nat.le_of_ble_eq_true rfl), (Nat.le_of_ble_eq_true rfl), (Nat.le_of_ble_eq_true rfl), (Nat.le_of_ble_eq_true rfl)⟩ ?_
  show sh_mW _ _ _ (_, _, []) (sh_u2 (sp_mrem I s u22 l) 21 s (((sp_mrem I s u22 l) 21 s) + 1)) (sh_u2 D 20 s (FP.dadd (D 20 s) (FP.dsub (D 11 0) (D 8 u22)))) _ _ _ _ _
  refine sh_mst (show (sh_u2 (sp_mrem I s u22 l) 21 s (((sp_mrem I s u22 l) 21 s) + 1)) = (sh_u2 (sp_mrem I s u22 l) 21 s ((I 21 s) + 1)) from by rw [(show (sp_mrem I s u22 l) 21 s = I 21 s from (sp_mrem_keep (by decide) _))]) rfl ?_
  refine sh_mp (fun w Z k => sh_aload_n dc_Mod_serve_54 rfl rfl k) ?_
  refine sh_mget 1 dc_Mod_serve_55 (by decide) fl_Mod_7 rfl rfl rfl rfl ?_
  refine sh_mp (fun w Z k => sh_iload_n dc_Mod_serve_58 rfl rfl k) ?_
  refine sh_mp (fun w Z k => sh_iconst (v := 0) dc_Mod_serve_59 (by decide) k) ?_
  refine sh_mzast 1 (l := 6) (k := u22) dc_Mod_serve_60 (by decide) rfl (by omega) (by decide) (by decide) ?_
  refine sh_mp (fun w Z k => sh_aload_n dc_Mod_serve_61 rfl rfl k) ?_
  refine sh_mget 4 dc_Mod_serve_62 (by decide) fl_Mod_20 rfl rfl rfl rfl ?_
  refine sh_mp (fun w Z k => sh_iload_n dc_Mod_serve_65 rfl rfl k) ?_
  refine sh_mp (fun w Z k => sh_aload_n dc_Mod_serve_66 rfl rfl k) ?_
  refine sh_mget 9 dc_Mod_serve_67 (by decide) fl_Mod_36 rfl rfl rfl rfl ?_
  refine sh_mp (fun w Z k => sh_iload_n dc_Mod_serve_70 rfl rfl k) ?_
  refine sh_miald 9 (l := 6) (k := u22) dc_Mod_serve_71 (by decide) rfl (by omega) (by decide) ?_
  refine sh_mti (show (sh_u2 (sh_u2 (sp_mrem I s u22 l) 21 s ((I 21 s) + 1)) 1 u22 0) 9 u22 = I 9 u22 from (Eq.trans (sh_u2_row (by decide) _) (Eq.trans (sh_u2_row (by decide) _) (sp_mrem_keep (by decide) _)))) ?_
  refine sh_mp (fun w Z k => sh_if_le (tgt := 84) dc_Mod_serve_72 (by decide) (fun _ => k) (fun z => absurd c6_72 z)) ?_
  refine sh_mp (fun w Z k => sh_iconst (v := 1) dc_Mod_serve_84 (by decide) k) ?_
  refine sh_miast 4 (l := 6) (k := u22) dc_Mod_serve_85 (by decide) rfl (by omega) (by decide) ?_
  refine sh_mp (fun w Z k => sh_aload_n dc_Mod_serve_86 rfl rfl k) ?_
  refine sh_mget 9 dc_Mod_serve_87 (by decide) fl_Mod_36 rfl rfl rfl rfl ?_
  refine sh_mp (fun w Z k => sh_iload_n dc_Mod_serve_90 rfl rfl k) ?_
  refine sh_miald 9 (l := 6) (k := u22) dc_Mod_serve_91 (by decide) rfl (by omega) (by decide) ?_
  refine sh_mti (show (sh_u2 (sh_u2 (sh_u2 (sp_mrem I s u22 l) 21 s ((I 21 s) + 1)) 1 u22 0) 4 u22 1) 9 u22 = I 9 u22 from (Eq.trans (sh_u2_row (by decide) _) (Eq.trans (sh_u2_row (by decide) _) (Eq.trans (sh_u2_row (by decide) _) (sp_mrem_keep (by decide) _))))) ?_
  refine sh_mp (fun w Z k => sh_if_le (tgt := 124) dc_Mod_serve_92 (by decide) (fun _ => k) (fun z => absurd c6_72 z)) ?_
  refine sh_mp (fun w Z k => sh_aload_n dc_Mod_serve_124 rfl rfl k) ?_
  refine sh_mp (fun w Z k => sh_iload_n dc_Mod_serve_125 rfl rfl k) ?_
  refine sh_mp (fun w Z k => sh_iload_n dc_Mod_serve_126 rfl rfl k) ?_
  refine sh_mp (fun w Z k => sh_aload_n dc_Mod_serve_127 rfl rfl k) ?_
  refine sh_mget 6 dc_Mod_serve_128 (by decide) fl_Mod_27 rfl rfl rfl rfl ?_
  refine sh_mp (fun w Z k => sh_iload_n dc_Mod_serve_131 rfl rfl k) ?_
  refine sh_miald 6 (l := 6) (k := u22) dc_Mod_serve_132 (by decide) rfl (by omega) (by decide) ?_
  refine sh_mti (show (sh_u2 (sh_u2 (sh_u2 (sp_mrem I s u22 l) 21 s ((I 21 s) + 1)) 1 u22 0) 4 u22 1) 6 u22 = I 6 u22 from (Eq.trans (sh_u2_row (by decide) _) (Eq.trans (sh_u2_row (by decide) _) (Eq.trans (sh_u2_row (by decide) _) (sp_mrem_keep (by decide) _))))) ?_
  refine sh_mcall (As := [.int (nI u22), .int (nI s), .int (I 6 u22)]) (fun w hw => by obtain ⟨fs, hw⟩ := hw; exact sh_virt dc_Mod_serve_133 lm_Mod_take ln_Mod_112 wd_1004 wd_39 rfl rfl (Nat.le_of_ble_eq_true rfl) hw rfl) (ml_take (t := u22) (s := s) (m := I 6 u22) (by omega) (by omega)) ⟨(Nat.le_of_ble_eq_true rfl), (Nat.le_of_ble_eq_true rfl), (Nat.le_of_ble_eq_true rfl), (Nat.le_of_ble_eq_true rfl)⟩ ?_
  show sh_mW _ _ _ (_, _, []) (sp_mtk (sh_u2 (sh_u2 (sh_u2 (sp_mrem I s u22 l) 21 s ((I 21 s) + 1)) 1 u22 0) 4 u22 1) u22 s (I 6 u22)) (sh_u2 D 20 s (FP.dadd (D 20 s) (FP.dsub (D 11 0) (D 8 u22)))) _ _ _ _ _
  refine sh_mp (fun w Z k => sh_goto_ (tgt := 0) dc_Mod_serve_136 (by decide) k) ?_
  refine sh_mlv [1, 2] rfl ?_
  exact k9
theorem mb_Mod_serve_0_3 {mq : Nat} {A : Nat → Nat} {I I9 : sh_II} {D D9 : sh_DD} {v9 : Option Value} {s : Nat} {l : List Nat} {u22 : Nat} (hs : s < 8) (hz : ¬ (I 12 s) = 6) (hy : ¬ (I 19 s) ≤ 0) (hr : cw_row I s l) (hn : l.Nodup) (hm : ∀ v ∈ l, I 6 v = 0 ∨ I 6 v = 1) (hu22 : u22 < 6) (c1_22 : sp_nx I D s l = some u22) (c2_38 : ¬ (sp_b (sp_can I u22 s (I 6 u22))) = 0) (v3_45 : u22 ∈ l) (v4_51 : vf_n64 (FP.dsub (D 11 0) (D 8 u22))) (v5_51 : vf_n64 (FP.dadd (D 20 s) (FP.dsub (D 11 0) (D 8 u22)))) (c6_72 : ¬ (I 9 u22) ≤ 0) (k9 : sh_mW mq A md_Mod_serve (0, [(0, .ref mq), (1, .int (nI s))], []) (sh_u2 (sh_u2 (sh_u2 (sh_u2 (sh_u2 (sh_u2 (sp_mrem I s u22 l) 21 s ((I 21 s) + 1)) 1 u22 0) 4 u22 (I 10 u22)) 13 s (nI u22)) 14 s (I 9 u22)) 9 u22 0) (sh_u2 D 20 s (FP.dadd (D 20 s) (FP.dsub (D 11 0) (D 8 u22)))) 0 0 v9 I9 D9) : sh_mW mq A md_Mod_serve (0, [(0, .ref mq), (1, .int (nI s))], []) I D 0 0 v9 I9 D9 := by
  refine sh_mp (fun w Z k => sh_aload_n dc_Mod_serve_0 rfl rfl k) ?_
  refine sh_mget 12 dc_Mod_serve_1 (by decide) fl_Mod_42 rfl rfl rfl rfl ?_
  refine sh_mp (fun w Z k => sh_iload_n dc_Mod_serve_4 rfl rfl k) ?_
  refine sh_miald 12 (l := 8) (k := s) dc_Mod_serve_5 (by decide) rfl (by omega) (by decide) ?_
  refine sh_mp (fun w Z k => sh_bipush (v := 6) dc_Mod_serve_6 (by decide) k) ?_
  refine sh_mp (fun w Z k => sh_icmp_eq (tgt := 139) dc_Mod_serve_8 (by decide) (fun z => absurd z hz) (fun _ => k)) ?_
  refine sh_mp (fun w Z k => sh_aload_n dc_Mod_serve_11 rfl rfl k) ?_
  refine sh_mget 19 dc_Mod_serve_12 (by decide) fl_Mod_63 rfl rfl rfl rfl ?_
  refine sh_mp (fun w Z k => sh_iload_n dc_Mod_serve_15 rfl rfl k) ?_
  refine sh_miald 19 (l := 8) (k := s) dc_Mod_serve_16 (by decide) rfl (by omega) (by decide) ?_
  refine sh_mp (fun w Z k => sh_if_le (tgt := 139) dc_Mod_serve_17 (by decide) (fun z => absurd z hy) (fun _ => k)) ?_
  refine sh_mp (fun w Z k => sh_aload_n dc_Mod_serve_20 rfl rfl k) ?_
  refine sh_mp (fun w Z k => sh_iload_n dc_Mod_serve_21 rfl rfl k) ?_
  refine sh_mcall (As := [.int (nI s)]) (fun w hw => by obtain ⟨fs, hw⟩ := hw; exact sh_virt dc_Mod_serve_22 lm_Mod_next ln_Mod_98 wd_1020 wd_42 rfl rfl (Nat.le_of_ble_eq_true rfl) hw rfl) (ml_next (s := s) (l := l) (u := u22) (by omega) hr hm c1_22) ⟨(Nat.le_of_ble_eq_true rfl), (Nat.le_of_ble_eq_true rfl), (Nat.le_of_ble_eq_true rfl), (Nat.le_of_ble_eq_true rfl)⟩ ?_
  show sh_mW _ _ _ (_, _, [.int (nI u22)]) I D _ _ _ _ _
  refine sh_mp (fun w Z k => sh_istore_n dc_Mod_serve_25 rfl (by decide) k) ?_
  refine sh_mp (fun w Z k => sh_aload_n dc_Mod_serve_26 rfl rfl k) ?_
  refine sh_mp (fun w Z k => sh_iload_n dc_Mod_serve_27 rfl rfl k) ?_
  refine sh_mp (fun w Z k => sh_iload_n dc_Mod_serve_28 rfl rfl k) ?_
  refine sh_mp (fun w Z k => sh_aload_n dc_Mod_serve_29 rfl rfl k) ?_
  refine sh_mget 6 dc_Mod_serve_30 (by decide) fl_Mod_27 rfl rfl rfl rfl ?_
  refine sh_mp (fun w Z k => sh_iload_n dc_Mod_serve_33 rfl rfl k) ?_
  refine sh_miald 6 (l := 6) (k := u22) dc_Mod_serve_34 (by decide) rfl (by omega) (by decide) ?_
  refine sh_mcall (As := [.int (nI u22), .int (nI s), .int (I 6 u22)]) (fun w hw => by obtain ⟨fs, hw⟩ := hw; exact sh_virt dc_Mod_serve_35 lm_Mod_canTake ln_Mod_101 wd_1000 wd_38 rfl rfl (Nat.le_of_ble_eq_true rfl) hw rfl) (ml_can (t := u22) (s := s) (m := I 6 u22) (by omega) (by omega)) ⟨(Nat.le_of_ble_eq_true rfl), (Nat.le_of_ble_eq_true rfl), (Nat.le_of_ble_eq_true rfl), (Nat.le_of_ble_eq_true rfl)⟩ ?_
  show sh_mW _ _ _ (_, _, [.int (sp_b (sp_can I u22 s (I 6 u22)))]) I D _ _ _ _ _
  refine sh_mp (fun w Z k => sh_if_ne (tgt := 42) dc_Mod_serve_38 (by decide) (fun _ => k) (fun z => absurd z c2_38)) ?_
  refine sh_mp (fun w Z k => sh_aload_n dc_Mod_serve_42 rfl rfl k) ?_
  refine sh_mp (fun w Z k => sh_iload_n dc_Mod_serve_43 rfl rfl k) ?_
  refine sh_mp (fun w Z k => sh_iload_n dc_Mod_serve_44 rfl rfl k) ?_
  refine sh_mcall (As := [.int (nI u22), .int (nI s)]) (fun w hw => by obtain ⟨fs, hw⟩ := hw; exact sh_virt dc_Mod_serve_45 lm_Mod_remove ln_Mod_105 wd_1024 wd_43 rfl rfl (Nat.le_of_ble_eq_true rfl) hw rfl) (ml_remove (t := u22) (s := s) (l := l) (by omega) (by omega) hr hn v3_45) ⟨(Nat.le_of_ble_eq_true rfl), (Nat.le_of_ble_eq_true rfl), (Nat.le_of_ble_eq_true rfl), (Nat.le_of_ble_eq_true rfl)⟩ ?_
  show sh_mW _ _ _ (_, _, []) (sp_mrem I s u22 l) D _ _ _ _ _
  refine sh_mp (fun w Z k => sh_aload_n dc_Mod_serve_48 rfl rfl k) ?_
  refine sh_mp (fun w Z k => sh_iload_n dc_Mod_serve_49 rfl rfl k) ?_
  refine sh_mp (fun w Z k => sh_iload_n dc_Mod_serve_50 rfl rfl k) ?_
  refine sh_mcall (As := [.int (nI u22), .int (nI s)]) (fun w hw => by obtain ⟨fs, hw⟩ := hw; exact sh_virt dc_Mod_serve_51 lm_Mod_addWaited ln_Mod_109 wd_1028 wd_44 rfl rfl (Nat.le_of_ble_eq_true rfl) hw rfl) (mx_Mod_addWaited_1 (t := u22) (s := s) (by omega) (by omega) v4_51 v5_51) ⟨(Nat.le_of_ble_eq_true rfl), (Nat.le_of_ble_eq_true rfl), (Nat.le_of_ble_eq_true rfl), (Nat.le_of_ble_eq_true rfl)⟩ ?_
  show sh_mW _ _ _ (_, _, []) (sh_u2 (sp_mrem I s u22 l) 21 s (((sp_mrem I s u22 l) 21 s) + 1)) (sh_u2 D 20 s (FP.dadd (D 20 s) (FP.dsub (D 11 0) (D 8 u22)))) _ _ _ _ _
  refine sh_mst (show (sh_u2 (sp_mrem I s u22 l) 21 s (((sp_mrem I s u22 l) 21 s) + 1)) = (sh_u2 (sp_mrem I s u22 l) 21 s ((I 21 s) + 1)) from by rw [(show (sp_mrem I s u22 l) 21 s = I 21 s from (sp_mrem_keep (by decide) _))]) rfl ?_
  refine sh_mp (fun w Z k => sh_aload_n dc_Mod_serve_54 rfl rfl k) ?_
  refine sh_mget 1 dc_Mod_serve_55 (by decide) fl_Mod_7 rfl rfl rfl rfl ?_
  refine sh_mp (fun w Z k => sh_iload_n dc_Mod_serve_58 rfl rfl k) ?_
  refine sh_mp (fun w Z k => sh_iconst (v := 0) dc_Mod_serve_59 (by decide) k) ?_
  refine sh_mzast 1 (l := 6) (k := u22) dc_Mod_serve_60 (by decide) rfl (by omega) (by decide) (by decide) ?_
  refine sh_mp (fun w Z k => sh_aload_n dc_Mod_serve_61 rfl rfl k) ?_
  refine sh_mget 4 dc_Mod_serve_62 (by decide) fl_Mod_20 rfl rfl rfl rfl ?_
  refine sh_mp (fun w Z k => sh_iload_n dc_Mod_serve_65 rfl rfl k) ?_
  refine sh_mp (fun w Z k => sh_aload_n dc_Mod_serve_66 rfl rfl k) ?_
  refine sh_mget 9 dc_Mod_serve_67 (by decide) fl_Mod_36 rfl rfl rfl rfl ?_
  refine sh_mp (fun w Z k => sh_iload_n dc_Mod_serve_70 rfl rfl k) ?_
  refine sh_miald 9 (l := 6) (k := u22) dc_Mod_serve_71 (by decide) rfl (by omega) (by decide) ?_
  refine sh_mti (show (sh_u2 (sh_u2 (sp_mrem I s u22 l) 21 s ((I 21 s) + 1)) 1 u22 0) 9 u22 = I 9 u22 from (Eq.trans (sh_u2_row (by decide) _) (Eq.trans (sh_u2_row (by decide) _) (sp_mrem_keep (by decide) _)))) ?_
  refine sh_mp (fun w Z k => sh_if_le (tgt := 84) dc_Mod_serve_72 (by decide) (fun z => absurd z c6_72) (fun _ => k)) ?_
  refine sh_mp (fun w Z k => sh_aload_n dc_Mod_serve_75 rfl rfl k) ?_
  refine sh_mget 10 dc_Mod_serve_76 (by decide) fl_Mod_39 rfl rfl rfl rfl ?_
  refine sh_mp (fun w Z k => sh_iload_n dc_Mod_serve_79 rfl rfl k) ?_
  refine sh_miald 10 (l := 6) (k := u22) dc_Mod_serve_80 (by decide) rfl (by omega) (by decide) ?_
  refine sh_mti (show (sh_u2 (sh_u2 (sp_mrem I s u22 l) 21 s ((I 21 s) + 1)) 1 u22 0) 10 u22 = I 10 u22 from (Eq.trans (sh_u2_row (by decide) _) (Eq.trans (sh_u2_row (by decide) _) (sp_mrem_keep (by decide) _)))) ?_
  refine sh_mp (fun w Z k => sh_goto_ (tgt := 85) dc_Mod_serve_81 (by decide) k) ?_
  refine sh_miast 4 (l := 6) (k := u22) dc_Mod_serve_85 (by decide) rfl (by omega) (by decide) ?_
  refine sh_mp (fun w Z k => sh_aload_n dc_Mod_serve_86 rfl rfl k) ?_
  refine sh_mget 9 dc_Mod_serve_87 (by decide) fl_Mod_36 rfl rfl rfl rfl ?_
  refine sh_mp (fun w Z k => sh_iload_n dc_Mod_serve_90 rfl rfl k) ?_
  refine sh_miald 9 (l := 6) (k := u22) dc_Mod_serve_91 (by decide) rfl (by omega) (by decide) ?_
  refine sh_mti (show (sh_u2 (sh_u2 (sh_u2 (sp_mrem I s u22 l) 21 s ((I 21 s) + 1)) 1 u22 0) 4 u22 (I 10 u22)) 9 u22 = I 9 u22 from (Eq.trans (sh_u2_row (by decide) _) (Eq.trans (sh_u2_row (by decide) _) (Eq.trans (sh_u2_row (by decide) _) (sp_mrem_keep (by decide) _))))) ?_
  refine sh_mp (fun w Z k => sh_if_le (tgt := 124) dc_Mod_serve_92 (by decide) (fun z => absurd z c6_72) (fun _ => k)) ?_
  refine sh_mp (fun w Z k => sh_aload_n dc_Mod_serve_95 rfl rfl k) ?_
  refine sh_mget 13 dc_Mod_serve_96 (by decide) fl_Mod_45 rfl rfl rfl rfl ?_
  refine sh_mp (fun w Z k => sh_iload_n dc_Mod_serve_99 rfl rfl k) ?_
  refine sh_mp (fun w Z k => sh_iload_n dc_Mod_serve_100 rfl rfl k) ?_
  refine sh_miast 13 (l := 8) (k := s) dc_Mod_serve_101 (by decide) rfl (by omega) (by decide) ?_
  refine sh_mp (fun w Z k => sh_aload_n dc_Mod_serve_102 rfl rfl k) ?_
  refine sh_mget 14 dc_Mod_serve_103 (by decide) fl_Mod_48 rfl rfl rfl rfl ?_
  refine sh_mp (fun w Z k => sh_iload_n dc_Mod_serve_106 rfl rfl k) ?_
  refine sh_mp (fun w Z k => sh_aload_n dc_Mod_serve_107 rfl rfl k) ?_
  refine sh_mget 9 dc_Mod_serve_108 (by decide) fl_Mod_36 rfl rfl rfl rfl ?_
  refine sh_mp (fun w Z k => sh_iload_n dc_Mod_serve_111 rfl rfl k) ?_
  refine sh_miald 9 (l := 6) (k := u22) dc_Mod_serve_112 (by decide) rfl (by omega) (by decide) ?_
  refine sh_mti (show (sh_u2 (sh_u2 (sh_u2 (sh_u2 (sp_mrem I s u22 l) 21 s ((I 21 s) + 1)) 1 u22 0) 4 u22 (I 10 u22)) 13 s (nI u22)) 9 u22 = I 9 u22 from (Eq.trans (sh_u2_row (by decide) _) (Eq.trans (sh_u2_row (by decide) _) (Eq.trans (sh_u2_row (by decide) _) (Eq.trans (sh_u2_row (by decide) _) (sp_mrem_keep (by decide) _)))))) ?_
  refine sh_miast 14 (l := 8) (k := s) dc_Mod_serve_113 (by decide) rfl (by omega) (by decide) ?_
  refine sh_mp (fun w Z k => sh_aload_n dc_Mod_serve_114 rfl rfl k) ?_
  refine sh_mget 9 dc_Mod_serve_115 (by decide) fl_Mod_36 rfl rfl rfl rfl ?_
  refine sh_mp (fun w Z k => sh_iload_n dc_Mod_serve_118 rfl rfl k) ?_
  refine sh_mp (fun w Z k => sh_iconst (v := 0) dc_Mod_serve_119 (by decide) k) ?_
  refine sh_miast 9 (l := 6) (k := u22) dc_Mod_serve_120 (by decide) rfl (by omega) (by decide) ?_
  refine sh_mp (fun w Z k => sh_goto_ (tgt := 136) dc_Mod_serve_121 (by decide) k) ?_
  refine sh_mp (fun w Z k => sh_goto_ (tgt := 0) dc_Mod_serve_136 (by decide) k) ?_
  refine sh_mlv [1, 2] rfl ?_
  exact k9
