theorem lc_make_r {A1 : Nat → Nat} {mq : Nat} {B : Nat → Nat} {sc oa od a n n1 cs ss : Nat} {K1 I I' : sh_II} {L1 D D' : sh_DD} {fs : List Value} {yo : Int64} {yd : UInt64} {h h1 : sh_Hp} {Z0 : sh_Zt} {N : Nat} {xs : Nat → Int32} {i e1 e2 e3 : Int32} {v : Int32} (f0 : h a = some (false, 0, fs)) (q1 : vp_in (i + 1) N) (v1 : xs (i + 1).toNatClampNeg = e1) (q2 : vp_in (i + 2) N) (v2 : xs (i + 2).toNatClampNeg = e2) (q3 : vp_in (i + 3) N) (v3 : xs (i + 3).toNatClampNeg = e3) (w1 : lw_W A1 mq B oa od K1 L1 I D yo yd h1) (mC : sh_M md_Hall_make [.ref a, .int e1, .int e2, .int e3] (n, h) (.inl (some (.int v), (n1, h1)))) (hM : sh_mM mq B md_Mod_make [.ref mq, .int e1, .int e2, .int e3] I D (some (.int v)) I' D') (e00 : I' 0 0 = 0) (hcs : cs + 23 ≤ room_1.cells) (hss : ss + 116 ≤ room_1.slots) (kk : ∀ n' h', lw_W A1 mq B oa od K1 L1 I' D' v.toInt64 yd h' → sh_V md_Law_law (1050, [(5, .int i), (4, .ref od), (3, .ref oa), (2, .ref mq), (1, .ref a), (0, .ref sc)], []) (n', h') (cs + 23) (ss + 116) (lw_G sc N xs Z0)) : sh_V md_Law_law (112, [(5, .int i), (4, .ref od), (3, .ref oa), (2, .ref mq), (1, .ref a), (0, .ref sc)], []) (n, h) cs ss (lw_G sc N xs Z0) := by
  refine sh_aload_n dc_Law_law_112 rfl rfl ?_
  refine sh_aload_n dc_Law_law_113 rfl rfl ?_
  refine sh_iload dc_Law_law_114 rfl ?_
  refine sh_iconst (v := 1) dc_Law_law_116 (by decide) ?_
  refine sh_iadd dc_Law_law_117 ?_
  refine sh_ialdS dc_Law_law_118 q1 ?_
  rw [v1]
  refine sh_aload_n dc_Law_law_119 rfl rfl ?_
  refine sh_iload dc_Law_law_120 rfl ?_
  refine sh_iconst (v := 2) dc_Law_law_122 (by decide) ?_
  refine sh_iadd dc_Law_law_123 ?_
  refine sh_ialdS dc_Law_law_124 q2 ?_
  rw [v2]
  refine sh_aload_n dc_Law_law_125 rfl rfl ?_
  refine sh_iload dc_Law_law_126 rfl ?_
  refine sh_iconst (v := 3) dc_Law_law_128 (by decide) ?_
  refine sh_iadd dc_Law_law_129 ?_
  refine sh_ialdS dc_Law_law_130 q3 ?_
  rw [v3]
  refine sh_aload_n dc_Law_law_131 rfl rfl ?_
  refine sh_callQ (sh_statW (n := 5) (As := [.ref a, .int e1, .int e2, .int e3, .ref oa]) dc_Law_law_132 wd_182 ⟨by decide, by decide⟩ (by decide) (by decide +kernel) ln_Law_68 wd_181 wd_48 rfl rfl (Nat.le_of_ble_eq_true rfl)) (lr_make f0 mC w1.2.2.1) ⟨by decide, Nat.le_of_ble_eq_true rfl, by show cs + 23 ≤ room_1.cells; omega, by show ss + 116 ≤ room_1.slots; omega⟩ ?_
  intro n2 h2 eh
  have w2 : lw_W A1 mq B oa od K1 L1 I D v.toInt64 yd h2 := by rw [eh]; exact lw_out w1
  refine sh_istore dc_Law_law_135 (by decide) ?_
  refine sh_aload_n dc_Law_law_137 rfl rfl ?_
  refine sh_aload_n dc_Law_law_138 rfl rfl ?_
  refine sh_iload dc_Law_law_139 rfl ?_
  refine sh_iconst (v := 1) dc_Law_law_141 (by decide) ?_
  refine sh_iadd dc_Law_law_142 ?_
  refine sh_ialdS dc_Law_law_143 q1 ?_
  rw [v1]
  refine sh_aload_n dc_Law_law_144 rfl rfl ?_
  refine sh_iload dc_Law_law_145 rfl ?_
  refine sh_iconst (v := 2) dc_Law_law_147 (by decide) ?_
  refine sh_iadd dc_Law_law_148 ?_
  refine sh_ialdS dc_Law_law_149 q2 ?_
  rw [v2]
  refine sh_aload_n dc_Law_law_150 rfl rfl ?_
  refine sh_iload dc_Law_law_151 rfl ?_
  refine sh_iconst (v := 3) dc_Law_law_153 (by decide) ?_
  refine sh_iadd dc_Law_law_154 ?_
  refine sh_ialdS dc_Law_law_155 q3 ?_
  rw [v3]
  obtain ⟨h3, x1, g1, m1⟩ := hM n2 h2 h2 w2.2.1 sh_Fr.rf
  have w3 := lw_mod w2 x1 g1
  refine sh_callR (sh_virt (As := [.int e1, .int e2, .int e3]) dc_Law_law_156 lm_Mod_make ln_Law_73 wd_948 wd_949 rfl rfl (Nat.le_of_ble_eq_true rfl) w2.2.1.1 rfl) m1 ⟨by decide, Nat.le_of_ble_eq_true rfl, by show cs+23 + 0 ≤ room_1.cells; omega, by show ss+116 + 0 ≤ room_1.slots; omega⟩ ?_
  refine sh_istore dc_Law_law_159 (by decide) ?_
  refine sh_aload_n dc_Law_law_161 rfl rfl ?_
  obtain ⟨h4, x2, g2, m2⟩ := (mx_Mod_thrown_1 (mq := mq) (A := B) (I := I') (D := D')) n2 h3 h3 w3.2.1 sh_Fr.rf
  have w4 := lw_mod w3 x2 g2
  refine sh_callR (sh_virt (As := []) dc_Law_law_162 lm_Mod_thrown ln_Law_74 wd_944 wd_945 rfl rfl (Nat.le_of_ble_eq_true rfl) w3.2.1.1 rfl) m2 ⟨by decide, Nat.le_of_ble_eq_true rfl, by show cs+23+0 + 0 ≤ room_1.cells; omega, by show ss+116+0 + 0 ≤ room_1.slots; omega⟩ ?_
  refine sh_iload dc_Law_law_165 rfl ?_
  refine sh_icmp_eq (tgt := 172) dc_Law_law_167 (by decide) (fun _ => ?_) (fun z => absurd e00 z)
  refine sh_iload dc_Law_law_172 rfl ?_
  refine sh_if_ne (tgt := 189) dc_Law_law_174 (by decide) (fun z => absurd (by decide) z) (fun _ => ?_)
  refine sh_aload_n dc_Law_law_177 rfl rfl ?_
  refine sh_iconst (v := 0) dc_Law_law_178 (by decide) ?_
  refine sh_lald (i := 0) dc_Law_law_179 w4.2.2.1 rfl (by decide) rfl ?_
  refine sh_iload dc_Law_law_180 rfl ?_
  refine sh_i2l dc_Law_law_182 ?_
  refine sh_lcmp dc_Law_law_183 ?_
  refine sh_if_eq (tgt := 189) dc_Law_law_184 (by decide) (fun _ => ?_) (fun z => absurd (by decide) z)
  refine sh_goto_ (tgt := 1050) dc_Law_law_189 (by decide) ?_
  refine sh_lvsub [2, 3, 4, 5, 6, 7] rfl ?_
  refine sh_widen (cs' := cs + 23) (ss' := ss + 116) (by show cs+23+0+0 ≤ cs + 23; omega) (by show ss+116+0+0 ≤ ss + 116; omega) ?_
  exact kk n2 h4 w4
theorem lc_make_t1 {A1 : Nat → Nat} {mq : Nat} {B : Nat → Nat} {sc oa od a n n1 cs ss : Nat} {K1 I I' : sh_II} {L1 D D' : sh_DD} {fs : List Value} {yo : Int64} {yd : UInt64} {h h1 : sh_Hp} {Z0 : sh_Zt} {N : Nat} {xs : Nat → Int32} {i e1 e2 e3 : Int32} {u : Int32} (f0 : h a = some (false, 0, fs)) (q1 : vp_in (i + 1) N) (v1 : xs (i + 1).toNatClampNeg = e1) (q2 : vp_in (i + 2) N) (v2 : xs (i + 2).toNatClampNeg = e2) (q3 : vp_in (i + 3) N) (v3 : xs (i + 3).toNatClampNeg = e3) (w1 : lw_W A1 mq B oa od K1 L1 I D yo yd h1) (mC : sh_M md_Hall_make [.ref a, .int e1, .int e2, .int e3] (n, h) (.inr (1, h1))) (hM : sh_mM mq B md_Mod_make [.ref mq, .int e1, .int e2, .int e3] I D (some (.int u)) I' D') (e00 : I' 0 0 = 1) (hcs : cs + 23 ≤ room_1.cells) (hss : ss + 116 ≤ room_1.slots) (kk : ∀ n' h', lw_W A1 mq B oa od K1 L1 I' D' yo yd h' → sh_V md_Law_law (1050, [(5, .int i), (4, .ref od), (3, .ref oa), (2, .ref mq), (1, .ref a), (0, .ref sc)], []) (n', h') (cs + 23) (ss + 116) (lw_G sc N xs Z0)) : sh_V md_Law_law (112, [(5, .int i), (4, .ref od), (3, .ref oa), (2, .ref mq), (1, .ref a), (0, .ref sc)], []) (n, h) cs ss (lw_G sc N xs Z0) := by
  refine sh_aload_n dc_Law_law_112 rfl rfl ?_
  refine sh_aload_n dc_Law_law_113 rfl rfl ?_
  refine sh_iload dc_Law_law_114 rfl ?_
  refine sh_iconst (v := 1) dc_Law_law_116 (by decide) ?_
  refine sh_iadd dc_Law_law_117 ?_
  refine sh_ialdS dc_Law_law_118 q1 ?_
  rw [v1]
  refine sh_aload_n dc_Law_law_119 rfl rfl ?_
  refine sh_iload dc_Law_law_120 rfl ?_
  refine sh_iconst (v := 2) dc_Law_law_122 (by decide) ?_
  refine sh_iadd dc_Law_law_123 ?_
  refine sh_ialdS dc_Law_law_124 q2 ?_
  rw [v2]
  refine sh_aload_n dc_Law_law_125 rfl rfl ?_
  refine sh_iload dc_Law_law_126 rfl ?_
  refine sh_iconst (v := 3) dc_Law_law_128 (by decide) ?_
  refine sh_iadd dc_Law_law_129 ?_
  refine sh_ialdS dc_Law_law_130 q3 ?_
  rw [v3]
  refine sh_aload_n dc_Law_law_131 rfl rfl ?_
  refine sh_callQ (sh_statW (n := 5) (As := [.ref a, .int e1, .int e2, .int e3, .ref oa]) dc_Law_law_132 wd_182 ⟨by decide, by decide⟩ (by decide) (by decide +kernel) ln_Law_68 wd_181 wd_48 rfl rfl (Nat.le_of_ble_eq_true rfl)) (lt_make_1 f0 mC) ⟨by decide, Nat.le_of_ble_eq_true rfl, by show cs + 23 ≤ room_1.cells; omega, by show ss + 116 ≤ room_1.slots; omega⟩ ?_
  intro n2 h2 eh
  have w2 : lw_W A1 mq B oa od K1 L1 I D yo yd h2 := by rw [eh]; exact w1
  refine sh_istore dc_Law_law_135 (by decide) ?_
  refine sh_aload_n dc_Law_law_137 rfl rfl ?_
  refine sh_aload_n dc_Law_law_138 rfl rfl ?_
  refine sh_iload dc_Law_law_139 rfl ?_
  refine sh_iconst (v := 1) dc_Law_law_141 (by decide) ?_
  refine sh_iadd dc_Law_law_142 ?_
  refine sh_ialdS dc_Law_law_143 q1 ?_
  rw [v1]
  refine sh_aload_n dc_Law_law_144 rfl rfl ?_
  refine sh_iload dc_Law_law_145 rfl ?_
  refine sh_iconst (v := 2) dc_Law_law_147 (by decide) ?_
  refine sh_iadd dc_Law_law_148 ?_
  refine sh_ialdS dc_Law_law_149 q2 ?_
  rw [v2]
  refine sh_aload_n dc_Law_law_150 rfl rfl ?_
  refine sh_iload dc_Law_law_151 rfl ?_
  refine sh_iconst (v := 3) dc_Law_law_153 (by decide) ?_
  refine sh_iadd dc_Law_law_154 ?_
  refine sh_ialdS dc_Law_law_155 q3 ?_
  rw [v3]
  obtain ⟨h3, x1, g1, m1⟩ := hM n2 h2 h2 w2.2.1 sh_Fr.rf
  have w3 := lw_mod w2 x1 g1
  refine sh_callR (sh_virt (As := [.int e1, .int e2, .int e3]) dc_Law_law_156 lm_Mod_make ln_Law_73 wd_948 wd_949 rfl rfl (Nat.le_of_ble_eq_true rfl) w2.2.1.1 rfl) m1 ⟨by decide, Nat.le_of_ble_eq_true rfl, by show cs+23 + 0 ≤ room_1.cells; omega, by show ss+116 + 0 ≤ room_1.slots; omega⟩ ?_
  refine sh_istore dc_Law_law_159 (by decide) ?_
  refine sh_aload_n dc_Law_law_161 rfl rfl ?_
  obtain ⟨h4, x2, g2, m2⟩ := (mx_Mod_thrown_1 (mq := mq) (A := B) (I := I') (D := D')) n2 h3 h3 w3.2.1 sh_Fr.rf
  have w4 := lw_mod w3 x2 g2
  refine sh_callR (sh_virt (As := []) dc_Law_law_162 lm_Mod_thrown ln_Law_74 wd_944 wd_945 rfl rfl (Nat.le_of_ble_eq_true rfl) w3.2.1.1 rfl) m2 ⟨by decide, Nat.le_of_ble_eq_true rfl, by show cs+23+0 + 0 ≤ room_1.cells; omega, by show ss+116+0 + 0 ≤ room_1.slots; omega⟩ ?_
  refine sh_iload dc_Law_law_165 rfl ?_
  refine sh_icmp_eq (tgt := 172) dc_Law_law_167 (by decide) (fun _ => ?_) (fun z => absurd e00 z)
  refine sh_iload dc_Law_law_172 rfl ?_
  refine sh_if_ne (tgt := 189) dc_Law_law_174 (by decide) (fun _ => ?_) (fun z => absurd z (by decide))
  refine sh_goto_ (tgt := 1050) dc_Law_law_189 (by decide) ?_
  refine sh_lvsub [2, 3, 4, 5, 6, 7] rfl ?_
  refine sh_widen (cs' := cs + 23) (ss' := ss + 116) (by show cs+23+0+0 ≤ cs + 23; omega) (by show ss+116+0+0 ≤ ss + 116; omega) ?_
  exact kk n2 h4 w4
theorem lc_make_t2 {A1 : Nat → Nat} {mq : Nat} {B : Nat → Nat} {sc oa od a n n1 cs ss : Nat} {K1 I I' : sh_II} {L1 D D' : sh_DD} {fs : List Value} {yo : Int64} {yd : UInt64} {h h1 : sh_Hp} {Z0 : sh_Zt} {N : Nat} {xs : Nat → Int32} {i e1 e2 e3 : Int32} {u : Int32} (f0 : h a = some (false, 0, fs)) (q1 : vp_in (i + 1) N) (v1 : xs (i + 1).toNatClampNeg = e1) (q2 : vp_in (i + 2) N) (v2 : xs (i + 2).toNatClampNeg = e2) (q3 : vp_in (i + 3) N) (v3 : xs (i + 3).toNatClampNeg = e3) (w1 : lw_W A1 mq B oa od K1 L1 I D yo yd h1) (mC : sh_M md_Hall_make [.ref a, .int e1, .int e2, .int e3] (n, h) (.inr (2, h1))) (hM : sh_mM mq B md_Mod_make [.ref mq, .int e1, .int e2, .int e3] I D (some (.int u)) I' D') (e00 : I' 0 0 = 2) (hcs : cs + 23 ≤ room_1.cells) (hss : ss + 116 ≤ room_1.slots) (kk : ∀ n' h', lw_W A1 mq B oa od K1 L1 I' D' yo yd h' → sh_V md_Law_law (1050, [(5, .int i), (4, .ref od), (3, .ref oa), (2, .ref mq), (1, .ref a), (0, .ref sc)], []) (n', h') (cs + 23) (ss + 116) (lw_G sc N xs Z0)) : sh_V md_Law_law (112, [(5, .int i), (4, .ref od), (3, .ref oa), (2, .ref mq), (1, .ref a), (0, .ref sc)], []) (n, h) cs ss (lw_G sc N xs Z0) := by
  refine sh_aload_n dc_Law_law_112 rfl rfl ?_
  refine sh_aload_n dc_Law_law_113 rfl rfl ?_
  refine sh_iload dc_Law_law_114 rfl ?_
  refine sh_iconst (v := 1) dc_Law_law_116 (by decide) ?_
  refine sh_iadd dc_Law_law_117 ?_
  refine sh_ialdS dc_Law_law_118 q1 ?_
  rw [v1]
  refine sh_aload_n dc_Law_law_119 rfl rfl ?_
  refine sh_iload dc_Law_law_120 rfl ?_
  refine sh_iconst (v := 2) dc_Law_law_122 (by decide) ?_
  refine sh_iadd dc_Law_law_123 ?_
  refine sh_ialdS dc_Law_law_124 q2 ?_
  rw [v2]
  refine sh_aload_n dc_Law_law_125 rfl rfl ?_
  refine sh_iload dc_Law_law_126 rfl ?_
  refine sh_iconst (v := 3) dc_Law_law_128 (by decide) ?_
  refine sh_iadd dc_Law_law_129 ?_
  refine sh_ialdS dc_Law_law_130 q3 ?_
  rw [v3]
  refine sh_aload_n dc_Law_law_131 rfl rfl ?_
  refine sh_callQ (sh_statW (n := 5) (As := [.ref a, .int e1, .int e2, .int e3, .ref oa]) dc_Law_law_132 wd_182 ⟨by decide, by decide⟩ (by decide) (by decide +kernel) ln_Law_68 wd_181 wd_48 rfl rfl (Nat.le_of_ble_eq_true rfl)) (lt_make_2 f0 mC) ⟨by decide, Nat.le_of_ble_eq_true rfl, by show cs + 23 ≤ room_1.cells; omega, by show ss + 116 ≤ room_1.slots; omega⟩ ?_
  intro n2 h2 eh
  have w2 : lw_W A1 mq B oa od K1 L1 I D yo yd h2 := by rw [eh]; exact w1
  refine sh_istore dc_Law_law_135 (by decide) ?_
  refine sh_aload_n dc_Law_law_137 rfl rfl ?_
  refine sh_aload_n dc_Law_law_138 rfl rfl ?_
  refine sh_iload dc_Law_law_139 rfl ?_
  refine sh_iconst (v := 1) dc_Law_law_141 (by decide) ?_
  refine sh_iadd dc_Law_law_142 ?_
  refine sh_ialdS dc_Law_law_143 q1 ?_
  rw [v1]
  refine sh_aload_n dc_Law_law_144 rfl rfl ?_
  refine sh_iload dc_Law_law_145 rfl ?_
  refine sh_iconst (v := 2) dc_Law_law_147 (by decide) ?_
  refine sh_iadd dc_Law_law_148 ?_
  refine sh_ialdS dc_Law_law_149 q2 ?_
  rw [v2]
  refine sh_aload_n dc_Law_law_150 rfl rfl ?_
  refine sh_iload dc_Law_law_151 rfl ?_
  refine sh_iconst (v := 3) dc_Law_law_153 (by decide) ?_
  refine sh_iadd dc_Law_law_154 ?_
  refine sh_ialdS dc_Law_law_155 q3 ?_
  rw [v3]
  obtain ⟨h3, x1, g1, m1⟩ := hM n2 h2 h2 w2.2.1 sh_Fr.rf
  have w3 := lw_mod w2 x1 g1
  refine sh_callR (sh_virt (As := [.int e1, .int e2, .int e3]) dc_Law_law_156 lm_Mod_make ln_Law_73 wd_948 wd_949 rfl rfl (Nat.le_of_ble_eq_true rfl) w2.2.1.1 rfl) m1 ⟨by decide, Nat.le_of_ble_eq_true rfl, by show cs+23 + 0 ≤ room_1.cells; omega, by show ss+116 + 0 ≤ room_1.slots; omega⟩ ?_
  refine sh_istore dc_Law_law_159 (by decide) ?_
  refine sh_aload_n dc_Law_law_161 rfl rfl ?_
  obtain ⟨h4, x2, g2, m2⟩ := (mx_Mod_thrown_1 (mq := mq) (A := B) (I := I') (D := D')) n2 h3 h3 w3.2.1 sh_Fr.rf
  have w4 := lw_mod w3 x2 g2
  refine sh_callR (sh_virt (As := []) dc_Law_law_162 lm_Mod_thrown ln_Law_74 wd_944 wd_945 rfl rfl (Nat.le_of_ble_eq_true rfl) w3.2.1.1 rfl) m2 ⟨by decide, Nat.le_of_ble_eq_true rfl, by show cs+23+0 + 0 ≤ room_1.cells; omega, by show ss+116+0 + 0 ≤ room_1.slots; omega⟩ ?_
  refine sh_iload dc_Law_law_165 rfl ?_
  refine sh_icmp_eq (tgt := 172) dc_Law_law_167 (by decide) (fun _ => ?_) (fun z => absurd e00 z)
  refine sh_iload dc_Law_law_172 rfl ?_
  refine sh_if_ne (tgt := 189) dc_Law_law_174 (by decide) (fun _ => ?_) (fun z => absurd z (by decide))
  refine sh_goto_ (tgt := 1050) dc_Law_law_189 (by decide) ?_
  refine sh_lvsub [2, 3, 4, 5, 6, 7] rfl ?_
  refine sh_widen (cs' := cs + 23) (ss' := ss + 116) (by show cs+23+0+0 ≤ cs + 23; omega) (by show ss+116+0+0 ≤ ss + 116; omega) ?_
  exact kk n2 h4 w4
theorem lc_make_t3 {A1 : Nat → Nat} {mq : Nat} {B : Nat → Nat} {sc oa od a n n1 cs ss : Nat} {K1 I I' : sh_II} {L1 D D' : sh_DD} {fs : List Value} {yo : Int64} {yd : UInt64} {h h1 : sh_Hp} {Z0 : sh_Zt} {N : Nat} {xs : Nat → Int32} {i e1 e2 e3 : Int32} {u : Int32} (f0 : h a = some (false, 0, fs)) (q1 : vp_in (i + 1) N) (v1 : xs (i + 1).toNatClampNeg = e1) (q2 : vp_in (i + 2) N) (v2 : xs (i + 2).toNatClampNeg = e2) (q3 : vp_in (i + 3) N) (v3 : xs (i + 3).toNatClampNeg = e3) (w1 : lw_W A1 mq B oa od K1 L1 I D yo yd h1) (mC : sh_M md_Hall_make [.ref a, .int e1, .int e2, .int e3] (n, h) (.inr (3, h1))) (hM : sh_mM mq B md_Mod_make [.ref mq, .int e1, .int e2, .int e3] I D (some (.int u)) I' D') (e00 : I' 0 0 = 3) (hcs : cs + 23 ≤ room_1.cells) (hss : ss + 116 ≤ room_1.slots) (kk : ∀ n' h', lw_W A1 mq B oa od K1 L1 I' D' yo yd h' → sh_V md_Law_law (1050, [(5, .int i), (4, .ref od), (3, .ref oa), (2, .ref mq), (1, .ref a), (0, .ref sc)], []) (n', h') (cs + 23) (ss + 116) (lw_G sc N xs Z0)) : sh_V md_Law_law (112, [(5, .int i), (4, .ref od), (3, .ref oa), (2, .ref mq), (1, .ref a), (0, .ref sc)], []) (n, h) cs ss (lw_G sc N xs Z0) := by
  refine sh_aload_n dc_Law_law_112 rfl rfl ?_
  refine sh_aload_n dc_Law_law_113 rfl rfl ?_
  refine sh_iload dc_Law_law_114 rfl ?_
  refine sh_iconst (v := 1) dc_Law_law_116 (by decide) ?_
  refine sh_iadd dc_Law_law_117 ?_
  refine sh_ialdS dc_Law_law_118 q1 ?_
  rw [v1]
  refine sh_aload_n dc_Law_law_119 rfl rfl ?_
  refine sh_iload dc_Law_law_120 rfl ?_
  refine sh_iconst (v := 2) dc_Law_law_122 (by decide) ?_
  refine sh_iadd dc_Law_law_123 ?_
  refine sh_ialdS dc_Law_law_124 q2 ?_
  rw [v2]
  refine sh_aload_n dc_Law_law_125 rfl rfl ?_
  refine sh_iload dc_Law_law_126 rfl ?_
  refine sh_iconst (v := 3) dc_Law_law_128 (by decide) ?_
  refine sh_iadd dc_Law_law_129 ?_
  refine sh_ialdS dc_Law_law_130 q3 ?_
  rw [v3]
  refine sh_aload_n dc_Law_law_131 rfl rfl ?_
  refine sh_callQ (sh_statW (n := 5) (As := [.ref a, .int e1, .int e2, .int e3, .ref oa]) dc_Law_law_132 wd_182 ⟨by decide, by decide⟩ (by decide) (by decide +kernel) ln_Law_68 wd_181 wd_48 rfl rfl (Nat.le_of_ble_eq_true rfl)) (lt_make_3 f0 mC) ⟨by decide, Nat.le_of_ble_eq_true rfl, by show cs + 23 ≤ room_1.cells; omega, by show ss + 116 ≤ room_1.slots; omega⟩ ?_
  intro n2 h2 eh
  have w2 : lw_W A1 mq B oa od K1 L1 I D yo yd h2 := by rw [eh]; exact w1
  refine sh_istore dc_Law_law_135 (by decide) ?_
  refine sh_aload_n dc_Law_law_137 rfl rfl ?_
  refine sh_aload_n dc_Law_law_138 rfl rfl ?_
  refine sh_iload dc_Law_law_139 rfl ?_
  refine sh_iconst (v := 1) dc_Law_law_141 (by decide) ?_
  refine sh_iadd dc_Law_law_142 ?_
  refine sh_ialdS dc_Law_law_143 q1 ?_
  rw [v1]
  refine sh_aload_n dc_Law_law_144 rfl rfl ?_
  refine sh_iload dc_Law_law_145 rfl ?_
  refine sh_iconst (v := 2) dc_Law_law_147 (by decide) ?_
  refine sh_iadd dc_Law_law_148 ?_
  refine sh_ialdS dc_Law_law_149 q2 ?_
  rw [v2]
  refine sh_aload_n dc_Law_law_150 rfl rfl ?_
  refine sh_iload dc_Law_law_151 rfl ?_
  refine sh_iconst (v := 3) dc_Law_law_153 (by decide) ?_
  refine sh_iadd dc_Law_law_154 ?_
  refine sh_ialdS dc_Law_law_155 q3 ?_
  rw [v3]
  obtain ⟨h3, x1, g1, m1⟩ := hM n2 h2 h2 w2.2.1 sh_Fr.rf
  have w3 := lw_mod w2 x1 g1
  refine sh_callR (sh_virt (As := [.int e1, .int e2, .int e3]) dc_Law_law_156 lm_Mod_make ln_Law_73 wd_948 wd_949 rfl rfl (Nat.le_of_ble_eq_true rfl) w2.2.1.1 rfl) m1 ⟨by decide, Nat.le_of_ble_eq_true rfl, by show cs+23 + 0 ≤ room_1.cells; omega, by show ss+116 + 0 ≤ room_1.slots; omega⟩ ?_
  refine sh_istore dc_Law_law_159 (by decide) ?_
  refine sh_aload_n dc_Law_law_161 rfl rfl ?_
  obtain ⟨h4, x2, g2, m2⟩ := (mx_Mod_thrown_1 (mq := mq) (A := B) (I := I') (D := D')) n2 h3 h3 w3.2.1 sh_Fr.rf
  have w4 := lw_mod w3 x2 g2
  refine sh_callR (sh_virt (As := []) dc_Law_law_162 lm_Mod_thrown ln_Law_74 wd_944 wd_945 rfl rfl (Nat.le_of_ble_eq_true rfl) w3.2.1.1 rfl) m2 ⟨by decide, Nat.le_of_ble_eq_true rfl, by show cs+23+0 + 0 ≤ room_1.cells; omega, by show ss+116+0 + 0 ≤ room_1.slots; omega⟩ ?_
  refine sh_iload dc_Law_law_165 rfl ?_
  refine sh_icmp_eq (tgt := 172) dc_Law_law_167 (by decide) (fun _ => ?_) (fun z => absurd e00 z)
  refine sh_iload dc_Law_law_172 rfl ?_
  refine sh_if_ne (tgt := 189) dc_Law_law_174 (by decide) (fun _ => ?_) (fun z => absurd z (by decide))
  refine sh_goto_ (tgt := 1050) dc_Law_law_189 (by decide) ?_
  refine sh_lvsub [2, 3, 4, 5, 6, 7] rfl ?_
  refine sh_widen (cs' := cs + 23) (ss' := ss + 116) (by show cs+23+0+0 ≤ cs + 23; omega) (by show ss+116+0+0 ≤ ss + 116; omega) ?_
  exact kk n2 h4 w4
theorem lc_rank_r {A1 : Nat → Nat} {mq : Nat} {B : Nat → Nat} {sc oa od a n n1 cs ss : Nat} {K1 I I' : sh_II} {L1 D D' : sh_DD} {fs : List Value} {yo : Int64} {yd : UInt64} {h h1 : sh_Hp} {Z0 : sh_Zt} {N : Nat} {xs : Nat → Int32} {i e1 e2 : Int32}  (f0 : h a = some (false, 0, fs)) (q1 : vp_in (i + 1) N) (v1 : xs (i + 1).toNatClampNeg = e1) (q2 : vp_in (i + 2) N) (v2 : xs (i + 2).toNatClampNeg = e2) (w1 : lw_W A1 mq B oa od K1 L1 I D yo yd h1) (mC : sh_M md_Hall_rank [.ref a, .int e1, .double (FP.dmul (FP.i2d e2) 4593671619917905920)] (n, h) (.inl (none, (n1, h1)))) (hM : sh_mM mq B md_Mod_rank [.ref mq, .int e1, .double (FP.dmul (FP.i2d e2) 4593671619917905920)] I D none I' D') (e00 : I' 0 0 = 0) (hcs : cs + 23 ≤ room_1.cells) (hss : ss + 116 ≤ room_1.slots) (kk : ∀ n' h', lw_W A1 mq B oa od K1 L1 I' D' yo yd h' → sh_V md_Law_law (1050, [(5, .int i), (4, .ref od), (3, .ref oa), (2, .ref mq), (1, .ref a), (0, .ref sc)], []) (n', h') (cs + 23) (ss + 116) (lw_G sc N xs Z0)) : sh_V md_Law_law (192, [(5, .int i), (4, .ref od), (3, .ref oa), (2, .ref mq), (1, .ref a), (0, .ref sc)], []) (n, h) cs ss (lw_G sc N xs Z0) := by
  refine sh_aload_n dc_Law_law_192 rfl rfl ?_
  refine sh_aload_n dc_Law_law_193 rfl rfl ?_
  refine sh_iload dc_Law_law_194 rfl ?_
  refine sh_iconst (v := 1) dc_Law_law_196 (by decide) ?_
  refine sh_iadd dc_Law_law_197 ?_
  refine sh_ialdS dc_Law_law_198 q1 ?_
  rw [v1]
  refine sh_aload_n dc_Law_law_199 rfl rfl ?_
  refine sh_iload dc_Law_law_200 rfl ?_
  refine sh_iconst (v := 2) dc_Law_law_202 (by decide) ?_
  refine sh_iadd dc_Law_law_203 ?_
  refine sh_ialdS dc_Law_law_204 q2 ?_
  rw [v2]
  refine sh_i2d dc_Law_law_205 ?_
  refine sh_ldc2d dc_Law_law_206 wd_1078 ?_
  refine sh_dmul dc_Law_law_209 (fp_eighth e2) ?_
  refine sh_callQ (sh_statW (n := 3) (As := [.ref a, .int e1, .double (FP.dmul (FP.i2d e2) 4593671619917905920)]) dc_Law_law_210 wd_441 ⟨by decide, by decide⟩ (by decide) (by decide +kernel) ln_Law_80 wd_440 wd_48 rfl rfl (Nat.le_of_ble_eq_true rfl)) (lr_rank f0 mC) ⟨by decide, Nat.le_of_ble_eq_true rfl, by show cs + 2 ≤ room_1.cells; omega, by show ss + 12 ≤ room_1.slots; omega⟩ ?_
  intro n2 h2 eh
  have w2 : lw_W A1 mq B oa od K1 L1 I D yo yd h2 := by rw [eh]; exact w1
  refine sh_istore dc_Law_law_213 (by decide) ?_
  refine sh_aload_n dc_Law_law_215 rfl rfl ?_
  refine sh_aload_n dc_Law_law_216 rfl rfl ?_
  refine sh_iload dc_Law_law_217 rfl ?_
  refine sh_iconst (v := 1) dc_Law_law_219 (by decide) ?_
  refine sh_iadd dc_Law_law_220 ?_
  refine sh_ialdS dc_Law_law_221 q1 ?_
  rw [v1]
  refine sh_aload_n dc_Law_law_222 rfl rfl ?_
  refine sh_iload dc_Law_law_223 rfl ?_
  refine sh_iconst (v := 2) dc_Law_law_225 (by decide) ?_
  refine sh_iadd dc_Law_law_226 ?_
  refine sh_ialdS dc_Law_law_227 q2 ?_
  rw [v2]
  refine sh_i2d dc_Law_law_228 ?_
  refine sh_ldc2d dc_Law_law_229 wd_1078 ?_
  refine sh_dmul dc_Law_law_232 (fp_eighth e2) ?_
  obtain ⟨h3, x1, g1, m1⟩ := hM n2 h2 h2 w2.2.1 sh_Fr.rf
  have w3 := lw_mod w2 x1 g1
  refine sh_callR (sh_virt (As := [.int e1, .double (FP.dmul (FP.i2d e2) 4593671619917905920)]) dc_Law_law_233 lm_Mod_rank ln_Law_83 wd_960 wd_961 rfl rfl (Nat.le_of_ble_eq_true rfl) w2.2.1.1 rfl) m1 ⟨by decide, Nat.le_of_ble_eq_true rfl, by show cs+2 + 0 ≤ room_1.cells; omega, by show ss+12 + 0 ≤ room_1.slots; omega⟩ ?_
  refine sh_aload_n dc_Law_law_236 rfl rfl ?_
  obtain ⟨h4, x2, g2, m2⟩ := (mx_Mod_thrown_1 (mq := mq) (A := B) (I := I') (D := D')) n2 h3 h3 w3.2.1 sh_Fr.rf
  have w4 := lw_mod w3 x2 g2
  refine sh_callR (sh_virt (As := []) dc_Law_law_237 lm_Mod_thrown ln_Law_74 wd_944 wd_945 rfl rfl (Nat.le_of_ble_eq_true rfl) w3.2.1.1 rfl) m2 ⟨by decide, Nat.le_of_ble_eq_true rfl, by show cs+2+0 + 0 ≤ room_1.cells; omega, by show ss+12+0 + 0 ≤ room_1.slots; omega⟩ ?_
  refine sh_iload dc_Law_law_240 rfl ?_
  refine sh_icmp_eq (tgt := 247) dc_Law_law_242 (by decide) (fun _ => ?_) (fun z => absurd e00 z)
  refine sh_goto_ (tgt := 1050) dc_Law_law_247 (by decide) ?_
  refine sh_lvsub [1, 2, 3, 4, 5, 6] rfl ?_
  refine sh_widen (cs' := cs + 23) (ss' := ss + 116) (by show cs+2+0+0 ≤ cs + 23; omega) (by show ss+12+0+0 ≤ ss + 116; omega) ?_
  exact kk n2 h4 w4
theorem lc_rank_t1 {A1 : Nat → Nat} {mq : Nat} {B : Nat → Nat} {sc oa od a n n1 cs ss : Nat} {K1 I I' : sh_II} {L1 D D' : sh_DD} {fs : List Value} {yo : Int64} {yd : UInt64} {h h1 : sh_Hp} {Z0 : sh_Zt} {N : Nat} {xs : Nat → Int32} {i e1 e2 : Int32}  (f0 : h a = some (false, 0, fs)) (q1 : vp_in (i + 1) N) (v1 : xs (i + 1).toNatClampNeg = e1) (q2 : vp_in (i + 2) N) (v2 : xs (i + 2).toNatClampNeg = e2) (w1 : lw_W A1 mq B oa od K1 L1 I D yo yd h1) (mC : sh_M md_Hall_rank [.ref a, .int e1, .double (FP.dmul (FP.i2d e2) 4593671619917905920)] (n, h) (.inr (1, h1))) (hM : sh_mM mq B md_Mod_rank [.ref mq, .int e1, .double (FP.dmul (FP.i2d e2) 4593671619917905920)] I D none I' D') (e00 : I' 0 0 = 1) (hcs : cs + 23 ≤ room_1.cells) (hss : ss + 116 ≤ room_1.slots) (kk : ∀ n' h', lw_W A1 mq B oa od K1 L1 I' D' yo yd h' → sh_V md_Law_law (1050, [(5, .int i), (4, .ref od), (3, .ref oa), (2, .ref mq), (1, .ref a), (0, .ref sc)], []) (n', h') (cs + 23) (ss + 116) (lw_G sc N xs Z0)) : sh_V md_Law_law (192, [(5, .int i), (4, .ref od), (3, .ref oa), (2, .ref mq), (1, .ref a), (0, .ref sc)], []) (n, h) cs ss (lw_G sc N xs Z0) := by
  refine sh_aload_n dc_Law_law_192 rfl rfl ?_
  refine sh_aload_n dc_Law_law_193 rfl rfl ?_
  refine sh_iload dc_Law_law_194 rfl ?_
  refine sh_iconst (v := 1) dc_Law_law_196 (by decide) ?_
  refine sh_iadd dc_Law_law_197 ?_
  refine sh_ialdS dc_Law_law_198 q1 ?_
  rw [v1]
  refine sh_aload_n dc_Law_law_199 rfl rfl ?_
  refine sh_iload dc_Law_law_200 rfl ?_
  refine sh_iconst (v := 2) dc_Law_law_202 (by decide) ?_
  refine sh_iadd dc_Law_law_203 ?_
  refine sh_ialdS dc_Law_law_204 q2 ?_
  rw [v2]
  refine sh_i2d dc_Law_law_205 ?_
  refine sh_ldc2d dc_Law_law_206 wd_1078 ?_
  refine sh_dmul dc_Law_law_209 (fp_eighth e2) ?_
  refine sh_callQ (sh_statW (n := 3) (As := [.ref a, .int e1, .double (FP.dmul (FP.i2d e2) 4593671619917905920)]) dc_Law_law_210 wd_441 ⟨by decide, by decide⟩ (by decide) (by decide +kernel) ln_Law_80 wd_440 wd_48 rfl rfl (Nat.le_of_ble_eq_true rfl)) (lt_rank_1 f0 mC) ⟨by decide, Nat.le_of_ble_eq_true rfl, by show cs + 2 ≤ room_1.cells; omega, by show ss + 12 ≤ room_1.slots; omega⟩ ?_
  intro n2 h2 eh
  have w2 : lw_W A1 mq B oa od K1 L1 I D yo yd h2 := by rw [eh]; exact w1
  refine sh_istore dc_Law_law_213 (by decide) ?_
  refine sh_aload_n dc_Law_law_215 rfl rfl ?_
  refine sh_aload_n dc_Law_law_216 rfl rfl ?_
  refine sh_iload dc_Law_law_217 rfl ?_
  refine sh_iconst (v := 1) dc_Law_law_219 (by decide) ?_
  refine sh_iadd dc_Law_law_220 ?_
  refine sh_ialdS dc_Law_law_221 q1 ?_
  rw [v1]
  refine sh_aload_n dc_Law_law_222 rfl rfl ?_
  refine sh_iload dc_Law_law_223 rfl ?_
  refine sh_iconst (v := 2) dc_Law_law_225 (by decide) ?_
  refine sh_iadd dc_Law_law_226 ?_
  refine sh_ialdS dc_Law_law_227 q2 ?_
  rw [v2]
  refine sh_i2d dc_Law_law_228 ?_
  refine sh_ldc2d dc_Law_law_229 wd_1078 ?_
  refine sh_dmul dc_Law_law_232 (fp_eighth e2) ?_
  obtain ⟨h3, x1, g1, m1⟩ := hM n2 h2 h2 w2.2.1 sh_Fr.rf
  have w3 := lw_mod w2 x1 g1
  refine sh_callR (sh_virt (As := [.int e1, .double (FP.dmul (FP.i2d e2) 4593671619917905920)]) dc_Law_law_233 lm_Mod_rank ln_Law_83 wd_960 wd_961 rfl rfl (Nat.le_of_ble_eq_true rfl) w2.2.1.1 rfl) m1 ⟨by decide, Nat.le_of_ble_eq_true rfl, by show cs+2 + 0 ≤ room_1.cells; omega, by show ss+12 + 0 ≤ room_1.slots; omega⟩ ?_
  refine sh_aload_n dc_Law_law_236 rfl rfl ?_
  obtain ⟨h4, x2, g2, m2⟩ := (mx_Mod_thrown_1 (mq := mq) (A := B) (I := I') (D := D')) n2 h3 h3 w3.2.1 sh_Fr.rf
  have w4 := lw_mod w3 x2 g2
  refine sh_callR (sh_virt (As := []) dc_Law_law_237 lm_Mod_thrown ln_Law_74 wd_944 wd_945 rfl rfl (Nat.le_of_ble_eq_true rfl) w3.2.1.1 rfl) m2 ⟨by decide, Nat.le_of_ble_eq_true rfl, by show cs+2+0 + 0 ≤ room_1.cells; omega, by show ss+12+0 + 0 ≤ room_1.slots; omega⟩ ?_
  refine sh_iload dc_Law_law_240 rfl ?_
  refine sh_icmp_eq (tgt := 247) dc_Law_law_242 (by decide) (fun _ => ?_) (fun z => absurd e00 z)
  refine sh_goto_ (tgt := 1050) dc_Law_law_247 (by decide) ?_
  refine sh_lvsub [1, 2, 3, 4, 5, 6] rfl ?_
  refine sh_widen (cs' := cs + 23) (ss' := ss + 116) (by show cs+2+0+0 ≤ cs + 23; omega) (by show ss+12+0+0 ≤ ss + 116; omega) ?_
  exact kk n2 h4 w4
theorem lc_acquire_r {A1 : Nat → Nat} {mq : Nat} {B : Nat → Nat} {sc oa od a n n1 cs ss : Nat} {K1 I I' : sh_II} {L1 D D' : sh_DD} {fs : List Value} {yo : Int64} {yd : UInt64} {h h1 : sh_Hp} {Z0 : sh_Zt} {N : Nat} {xs : Nat → Int32} {i e1 e2 e3 e4 : Int32} {v : Int32} (f0 : h a = some (false, 0, fs)) (q1 : vp_in (i + 1) N) (v1 : xs (i + 1).toNatClampNeg = e1) (q2 : vp_in (i + 2) N) (v2 : xs (i + 2).toNatClampNeg = e2) (q3 : vp_in (i + 3) N) (v3 : xs (i + 3).toNatClampNeg = e3) (q4 : vp_in (i + 4) N) (v4 : xs (i + 4).toNatClampNeg = e4) (w1 : lw_W A1 mq B oa od K1 L1 I D yo yd h1) (mC : sh_M md_Hall_acquire [.ref a, .int e1, .int e2, .int e3, .double (FP.dmul (FP.i2d e4) 4593671619917905920)] (n, h) (.inl (some (.int v), (n1, h1)))) (hM : sh_mM mq B md_Mod_acquire [.ref mq, .int e1, .int e2, .int e3, .double (FP.dmul (FP.i2d e4) 4593671619917905920)] I D (some (.int v)) I' D') (e00 : I' 0 0 = 0) (hcs : cs + 23 ≤ room_1.cells) (hss : ss + 116 ≤ room_1.slots) (kk : ∀ n' h', lw_W A1 mq B oa od K1 L1 I' D' v.toInt64 yd h' → sh_V md_Law_law (1050, [(5, .int i), (4, .ref od), (3, .ref oa), (2, .ref mq), (1, .ref a), (0, .ref sc)], []) (n', h') (cs + 23) (ss + 116) (lw_G sc N xs Z0)) : sh_V md_Law_law (250, [(5, .int i), (4, .ref od), (3, .ref oa), (2, .ref mq), (1, .ref a), (0, .ref sc)], []) (n, h) cs ss (lw_G sc N xs Z0) := by
  refine sh_aload_n dc_Law_law_250 rfl rfl ?_
  refine sh_aload_n dc_Law_law_251 rfl rfl ?_
  refine sh_iload dc_Law_law_252 rfl ?_
  refine sh_iconst (v := 1) dc_Law_law_254 (by decide) ?_
  refine sh_iadd dc_Law_law_255 ?_
  refine sh_ialdS dc_Law_law_256 q1 ?_
  rw [v1]
  refine sh_aload_n dc_Law_law_257 rfl rfl ?_
  refine sh_iload dc_Law_law_258 rfl ?_
  refine sh_iconst (v := 2) dc_Law_law_260 (by decide) ?_
  refine sh_iadd dc_Law_law_261 ?_
  refine sh_ialdS dc_Law_law_262 q2 ?_
  rw [v2]
  refine sh_aload_n dc_Law_law_263 rfl rfl ?_
  refine sh_iload dc_Law_law_264 rfl ?_
  refine sh_iconst (v := 3) dc_Law_law_266 (by decide) ?_
  refine sh_iadd dc_Law_law_267 ?_
  refine sh_ialdS dc_Law_law_268 q3 ?_
  rw [v3]
  refine sh_aload_n dc_Law_law_269 rfl rfl ?_
  refine sh_iload dc_Law_law_270 rfl ?_
  refine sh_iconst (v := 4) dc_Law_law_272 (by decide) ?_
  refine sh_iadd dc_Law_law_273 ?_
  refine sh_ialdS dc_Law_law_274 q4 ?_
  rw [v4]
  refine sh_i2d dc_Law_law_275 ?_
  refine sh_ldc2d dc_Law_law_276 wd_1078 ?_
  refine sh_dmul dc_Law_law_279 (fp_eighth e4) ?_
  refine sh_aload_n dc_Law_law_280 rfl rfl ?_
  refine sh_callQ (sh_statW (n := 6) (As := [.ref a, .int e1, .int e2, .int e3, .double (FP.dmul (FP.i2d e4) 4593671619917905920), .ref oa]) dc_Law_law_281 wd_456 ⟨by decide, by decide⟩ (by decide) (by decide +kernel) ln_Law_84 wd_455 wd_48 rfl rfl (Nat.le_of_ble_eq_true rfl)) (lr_acquire f0 mC w1.2.2.1) ⟨by decide, Nat.le_of_ble_eq_true rfl, by show cs + 9 ≤ room_1.cells; omega, by show ss + 54 ≤ room_1.slots; omega⟩ ?_
  intro n2 h2 eh
  have w2 : lw_W A1 mq B oa od K1 L1 I D v.toInt64 yd h2 := by rw [eh]; exact lw_out w1
  refine sh_istore dc_Law_law_284 (by decide) ?_
  refine sh_aload_n dc_Law_law_286 rfl rfl ?_
  refine sh_aload_n dc_Law_law_287 rfl rfl ?_
  refine sh_iload dc_Law_law_288 rfl ?_
  refine sh_iconst (v := 1) dc_Law_law_290 (by decide) ?_
  refine sh_iadd dc_Law_law_291 ?_
  refine sh_ialdS dc_Law_law_292 q1 ?_
  rw [v1]
  refine sh_aload_n dc_Law_law_293 rfl rfl ?_
  refine sh_iload dc_Law_law_294 rfl ?_
  refine sh_iconst (v := 2) dc_Law_law_296 (by decide) ?_
  refine sh_iadd dc_Law_law_297 ?_
  refine sh_ialdS dc_Law_law_298 q2 ?_
  rw [v2]
  refine sh_aload_n dc_Law_law_299 rfl rfl ?_
  refine sh_iload dc_Law_law_300 rfl ?_
  refine sh_iconst (v := 3) dc_Law_law_302 (by decide) ?_
  refine sh_iadd dc_Law_law_303 ?_
  refine sh_ialdS dc_Law_law_304 q3 ?_
  rw [v3]
  refine sh_aload_n dc_Law_law_305 rfl rfl ?_
  refine sh_iload dc_Law_law_306 rfl ?_
  refine sh_iconst (v := 4) dc_Law_law_308 (by decide) ?_
  refine sh_iadd dc_Law_law_309 ?_
  refine sh_ialdS dc_Law_law_310 q4 ?_
  rw [v4]
  refine sh_i2d dc_Law_law_311 ?_
  refine sh_ldc2d dc_Law_law_312 wd_1078 ?_
  refine sh_dmul dc_Law_law_315 (fp_eighth e4) ?_
  obtain ⟨h3, x1, g1, m1⟩ := hM n2 h2 h2 w2.2.1 sh_Fr.rf
  have w3 := lw_mod w2 x1 g1
  refine sh_callR (sh_virt (As := [.int e1, .int e2, .int e3, .double (FP.dmul (FP.i2d e4) 4593671619917905920)]) dc_Law_law_316 lm_Mod_acquire ln_Law_87 wd_966 wd_967 rfl rfl (Nat.le_of_ble_eq_true rfl) w2.2.1.1 rfl) m1 ⟨by decide, Nat.le_of_ble_eq_true rfl, by show cs+9 + 0 ≤ room_1.cells; omega, by show ss+54 + 0 ≤ room_1.slots; omega⟩ ?_
  refine sh_istore dc_Law_law_319 (by decide) ?_
  refine sh_aload_n dc_Law_law_321 rfl rfl ?_
  obtain ⟨h4, x2, g2, m2⟩ := (mx_Mod_thrown_1 (mq := mq) (A := B) (I := I') (D := D')) n2 h3 h3 w3.2.1 sh_Fr.rf
  have w4 := lw_mod w3 x2 g2
  refine sh_callR (sh_virt (As := []) dc_Law_law_322 lm_Mod_thrown ln_Law_74 wd_944 wd_945 rfl rfl (Nat.le_of_ble_eq_true rfl) w3.2.1.1 rfl) m2 ⟨by decide, Nat.le_of_ble_eq_true rfl, by show cs+9+0 + 0 ≤ room_1.cells; omega, by show ss+54+0 + 0 ≤ room_1.slots; omega⟩ ?_
  refine sh_iload dc_Law_law_325 rfl ?_
  refine sh_icmp_eq (tgt := 332) dc_Law_law_327 (by decide) (fun _ => ?_) (fun z => absurd e00 z)
  refine sh_iload dc_Law_law_332 rfl ?_
  refine sh_if_ne (tgt := 349) dc_Law_law_334 (by decide) (fun z => absurd (by decide) z) (fun _ => ?_)
  refine sh_aload_n dc_Law_law_337 rfl rfl ?_
  refine sh_iconst (v := 0) dc_Law_law_338 (by decide) ?_
  refine sh_lald (i := 0) dc_Law_law_339 w4.2.2.1 rfl (by decide) rfl ?_
  refine sh_iload dc_Law_law_340 rfl ?_
  refine sh_i2l dc_Law_law_342 ?_
  refine sh_lcmp dc_Law_law_343 ?_
  refine sh_if_eq (tgt := 349) dc_Law_law_344 (by decide) (fun _ => ?_) (fun z => absurd (by decide) z)
  refine sh_goto_ (tgt := 1050) dc_Law_law_349 (by decide) ?_
  refine sh_lvsub [2, 3, 4, 5, 6, 7] rfl ?_
  refine sh_widen (cs' := cs + 23) (ss' := ss + 116) (by show cs+9+0+0 ≤ cs + 23; omega) (by show ss+54+0+0 ≤ ss + 116; omega) ?_
  exact kk n2 h4 w4
theorem lc_acquire_t1 {A1 : Nat → Nat} {mq : Nat} {B : Nat → Nat} {sc oa od a n n1 cs ss : Nat} {K1 I I' : sh_II} {L1 D D' : sh_DD} {fs : List Value} {yo : Int64} {yd : UInt64} {h h1 : sh_Hp} {Z0 : sh_Zt} {N : Nat} {xs : Nat → Int32} {i e1 e2 e3 e4 : Int32} {u : Int32} (f0 : h a = some (false, 0, fs)) (q1 : vp_in (i + 1) N) (v1 : xs (i + 1).toNatClampNeg = e1) (q2 : vp_in (i + 2) N) (v2 : xs (i + 2).toNatClampNeg = e2) (q3 : vp_in (i + 3) N) (v3 : xs (i + 3).toNatClampNeg = e3) (q4 : vp_in (i + 4) N) (v4 : xs (i + 4).toNatClampNeg = e4) (w1 : lw_W A1 mq B oa od K1 L1 I D yo yd h1) (mC : sh_M md_Hall_acquire [.ref a, .int e1, .int e2, .int e3, .double (FP.dmul (FP.i2d e4) 4593671619917905920)] (n, h) (.inr (1, h1))) (hM : sh_mM mq B md_Mod_acquire [.ref mq, .int e1, .int e2, .int e3, .double (FP.dmul (FP.i2d e4) 4593671619917905920)] I D (some (.int u)) I' D') (e00 : I' 0 0 = 1) (hcs : cs + 23 ≤ room_1.cells) (hss : ss + 116 ≤ room_1.slots) (kk : ∀ n' h', lw_W A1 mq B oa od K1 L1 I' D' yo yd h' → sh_V md_Law_law (1050, [(5, .int i), (4, .ref od), (3, .ref oa), (2, .ref mq), (1, .ref a), (0, .ref sc)], []) (n', h') (cs + 23) (ss + 116) (lw_G sc N xs Z0)) : sh_V md_Law_law (250, [(5, .int i), (4, .ref od), (3, .ref oa), (2, .ref mq), (1, .ref a), (0, .ref sc)], []) (n, h) cs ss (lw_G sc N xs Z0) := by
  refine sh_aload_n dc_Law_law_250 rfl rfl ?_
  refine sh_aload_n dc_Law_law_251 rfl rfl ?_
  refine sh_iload dc_Law_law_252 rfl ?_
  refine sh_iconst (v := 1) dc_Law_law_254 (by decide) ?_
  refine sh_iadd dc_Law_law_255 ?_
  refine sh_ialdS dc_Law_law_256 q1 ?_
  rw [v1]
  refine sh_aload_n dc_Law_law_257 rfl rfl ?_
  refine sh_iload dc_Law_law_258 rfl ?_
  refine sh_iconst (v := 2) dc_Law_law_260 (by decide) ?_
  refine sh_iadd dc_Law_law_261 ?_
  refine sh_ialdS dc_Law_law_262 q2 ?_
  rw [v2]
  refine sh_aload_n dc_Law_law_263 rfl rfl ?_
  refine sh_iload dc_Law_law_264 rfl ?_
  refine sh_iconst (v := 3) dc_Law_law_266 (by decide) ?_
  refine sh_iadd dc_Law_law_267 ?_
  refine sh_ialdS dc_Law_law_268 q3 ?_
  rw [v3]
  refine sh_aload_n dc_Law_law_269 rfl rfl ?_
  refine sh_iload dc_Law_law_270 rfl ?_
  refine sh_iconst (v := 4) dc_Law_law_272 (by decide) ?_
  refine sh_iadd dc_Law_law_273 ?_
  refine sh_ialdS dc_Law_law_274 q4 ?_
  rw [v4]
  refine sh_i2d dc_Law_law_275 ?_
  refine sh_ldc2d dc_Law_law_276 wd_1078 ?_
  refine sh_dmul dc_Law_law_279 (fp_eighth e4) ?_
  refine sh_aload_n dc_Law_law_280 rfl rfl ?_
  refine sh_callQ (sh_statW (n := 6) (As := [.ref a, .int e1, .int e2, .int e3, .double (FP.dmul (FP.i2d e4) 4593671619917905920), .ref oa]) dc_Law_law_281 wd_456 ⟨by decide, by decide⟩ (by decide) (by decide +kernel) ln_Law_84 wd_455 wd_48 rfl rfl (Nat.le_of_ble_eq_true rfl)) (lt_acquire_1 f0 mC) ⟨by decide, Nat.le_of_ble_eq_true rfl, by show cs + 9 ≤ room_1.cells; omega, by show ss + 54 ≤ room_1.slots; omega⟩ ?_
  intro n2 h2 eh
  have w2 : lw_W A1 mq B oa od K1 L1 I D yo yd h2 := by rw [eh]; exact w1
  refine sh_istore dc_Law_law_284 (by decide) ?_
  refine sh_aload_n dc_Law_law_286 rfl rfl ?_
  refine sh_aload_n dc_Law_law_287 rfl rfl ?_
  refine sh_iload dc_Law_law_288 rfl ?_
  refine sh_iconst (v := 1) dc_Law_law_290 (by decide) ?_
  refine sh_iadd dc_Law_law_291 ?_
  refine sh_ialdS dc_Law_law_292 q1 ?_
  rw [v1]
  refine sh_aload_n dc_Law_law_293 rfl rfl ?_
  refine sh_iload dc_Law_law_294 rfl ?_
  refine sh_iconst (v := 2) dc_Law_law_296 (by decide) ?_
  refine sh_iadd dc_Law_law_297 ?_
  refine sh_ialdS dc_Law_law_298 q2 ?_
  rw [v2]
  refine sh_aload_n dc_Law_law_299 rfl rfl ?_
  refine sh_iload dc_Law_law_300 rfl ?_
  refine sh_iconst (v := 3) dc_Law_law_302 (by decide) ?_
  refine sh_iadd dc_Law_law_303 ?_
  refine sh_ialdS dc_Law_law_304 q3 ?_
  rw [v3]
  refine sh_aload_n dc_Law_law_305 rfl rfl ?_
  refine sh_iload dc_Law_law_306 rfl ?_
  refine sh_iconst (v := 4) dc_Law_law_308 (by decide) ?_
  refine sh_iadd dc_Law_law_309 ?_
  refine sh_ialdS dc_Law_law_310 q4 ?_
  rw [v4]
  refine sh_i2d dc_Law_law_311 ?_
  refine sh_ldc2d dc_Law_law_312 wd_1078 ?_
  refine sh_dmul dc_Law_law_315 (fp_eighth e4) ?_
  obtain ⟨h3, x1, g1, m1⟩ := hM n2 h2 h2 w2.2.1 sh_Fr.rf
  have w3 := lw_mod w2 x1 g1
  refine sh_callR (sh_virt (As := [.int e1, .int e2, .int e3, .double (FP.dmul (FP.i2d e4) 4593671619917905920)]) dc_Law_law_316 lm_Mod_acquire ln_Law_87 wd_966 wd_967 rfl rfl (Nat.le_of_ble_eq_true rfl) w2.2.1.1 rfl) m1 ⟨by decide, Nat.le_of_ble_eq_true rfl, by show cs+9 + 0 ≤ room_1.cells; omega, by show ss+54 + 0 ≤ room_1.slots; omega⟩ ?_
  refine sh_istore dc_Law_law_319 (by decide) ?_
  refine sh_aload_n dc_Law_law_321 rfl rfl ?_
  obtain ⟨h4, x2, g2, m2⟩ := (mx_Mod_thrown_1 (mq := mq) (A := B) (I := I') (D := D')) n2 h3 h3 w3.2.1 sh_Fr.rf
  have w4 := lw_mod w3 x2 g2
  refine sh_callR (sh_virt (As := []) dc_Law_law_322 lm_Mod_thrown ln_Law_74 wd_944 wd_945 rfl rfl (Nat.le_of_ble_eq_true rfl) w3.2.1.1 rfl) m2 ⟨by decide, Nat.le_of_ble_eq_true rfl, by show cs+9+0 + 0 ≤ room_1.cells; omega, by show ss+54+0 + 0 ≤ room_1.slots; omega⟩ ?_
  refine sh_iload dc_Law_law_325 rfl ?_
  refine sh_icmp_eq (tgt := 332) dc_Law_law_327 (by decide) (fun _ => ?_) (fun z => absurd e00 z)
  refine sh_iload dc_Law_law_332 rfl ?_
  refine sh_if_ne (tgt := 349) dc_Law_law_334 (by decide) (fun _ => ?_) (fun z => absurd z (by decide))
  refine sh_goto_ (tgt := 1050) dc_Law_law_349 (by decide) ?_
  refine sh_lvsub [2, 3, 4, 5, 6, 7] rfl ?_
  refine sh_widen (cs' := cs + 23) (ss' := ss + 116) (by show cs+9+0+0 ≤ cs + 23; omega) (by show ss+54+0+0 ≤ ss + 116; omega) ?_
  exact kk n2 h4 w4
theorem lc_acquire_t2 {A1 : Nat → Nat} {mq : Nat} {B : Nat → Nat} {sc oa od a n n1 cs ss : Nat} {K1 I I' : sh_II} {L1 D D' : sh_DD} {fs : List Value} {yo : Int64} {yd : UInt64} {h h1 : sh_Hp} {Z0 : sh_Zt} {N : Nat} {xs : Nat → Int32} {i e1 e2 e3 e4 : Int32} {u : Int32} (f0 : h a = some (false, 0, fs)) (q1 : vp_in (i + 1) N) (v1 : xs (i + 1).toNatClampNeg = e1) (q2 : vp_in (i + 2) N) (v2 : xs (i + 2).toNatClampNeg = e2) (q3 : vp_in (i + 3) N) (v3 : xs (i + 3).toNatClampNeg = e3) (q4 : vp_in (i + 4) N) (v4 : xs (i + 4).toNatClampNeg = e4) (w1 : lw_W A1 mq B oa od K1 L1 I D yo yd h1) (mC : sh_M md_Hall_acquire [.ref a, .int e1, .int e2, .int e3, .double (FP.dmul (FP.i2d e4) 4593671619917905920)] (n, h) (.inr (2, h1))) (hM : sh_mM mq B md_Mod_acquire [.ref mq, .int e1, .int e2, .int e3, .double (FP.dmul (FP.i2d e4) 4593671619917905920)] I D (some (.int u)) I' D') (e00 : I' 0 0 = 2) (hcs : cs + 23 ≤ room_1.cells) (hss : ss + 116 ≤ room_1.slots) (kk : ∀ n' h', lw_W A1 mq B oa od K1 L1 I' D' yo yd h' → sh_V md_Law_law (1050, [(5, .int i), (4, .ref od), (3, .ref oa), (2, .ref mq), (1, .ref a), (0, .ref sc)], []) (n', h') (cs + 23) (ss + 116) (lw_G sc N xs Z0)) : sh_V md_Law_law (250, [(5, .int i), (4, .ref od), (3, .ref oa), (2, .ref mq), (1, .ref a), (0, .ref sc)], []) (n, h) cs ss (lw_G sc N xs Z0) := by
  refine sh_aload_n dc_Law_law_250 rfl rfl ?_
  refine sh_aload_n dc_Law_law_251 rfl rfl ?_
  refine sh_iload dc_Law_law_252 rfl ?_
  refine sh_iconst (v := 1) dc_Law_law_254 (by decide) ?_
  refine sh_iadd dc_Law_law_255 ?_
  refine sh_ialdS dc_Law_law_256 q1 ?_
  rw [v1]
  refine sh_aload_n dc_Law_law_257 rfl rfl ?_
  refine sh_iload dc_Law_law_258 rfl ?_
  refine sh_iconst (v := 2) dc_Law_law_260 (by decide) ?_
  refine sh_iadd dc_Law_law_261 ?_
  refine sh_ialdS dc_Law_law_262 q2 ?_
  rw [v2]
  refine sh_aload_n dc_Law_law_263 rfl rfl ?_
  refine sh_iload dc_Law_law_264 rfl ?_
  refine sh_iconst (v := 3) dc_Law_law_266 (by decide) ?_
  refine sh_iadd dc_Law_law_267 ?_
  refine sh_ialdS dc_Law_law_268 q3 ?_
  rw [v3]
  refine sh_aload_n dc_Law_law_269 rfl rfl ?_
  refine sh_iload dc_Law_law_270 rfl ?_
  refine sh_iconst (v := 4) dc_Law_law_272 (by decide) ?_
  refine sh_iadd dc_Law_law_273 ?_
  refine sh_ialdS dc_Law_law_274 q4 ?_
  rw [v4]
  refine sh_i2d dc_Law_law_275 ?_
  refine sh_ldc2d dc_Law_law_276 wd_1078 ?_
  refine sh_dmul dc_Law_law_279 (fp_eighth e4) ?_
  refine sh_aload_n dc_Law_law_280 rfl rfl ?_
  refine sh_callQ (sh_statW (n := 6) (As := [.ref a, .int e1, .int e2, .int e3, .double (FP.dmul (FP.i2d e4) 4593671619917905920), .ref oa]) dc_Law_law_281 wd_456 ⟨by decide, by decide⟩ (by decide) (by decide +kernel) ln_Law_84 wd_455 wd_48 rfl rfl (Nat.le_of_ble_eq_true rfl)) (lt_acquire_2 f0 mC) ⟨by decide, Nat.le_of_ble_eq_true rfl, by show cs + 9 ≤ room_1.cells; omega, by show ss + 54 ≤ room_1.slots; omega⟩ ?_
  intro n2 h2 eh
  have w2 : lw_W A1 mq B oa od K1 L1 I D yo yd h2 := by rw [eh]; exact w1
  refine sh_istore dc_Law_law_284 (by decide) ?_
  refine sh_aload_n dc_Law_law_286 rfl rfl ?_
  refine sh_aload_n dc_Law_law_287 rfl rfl ?_
  refine sh_iload dc_Law_law_288 rfl ?_
  refine sh_iconst (v := 1) dc_Law_law_290 (by decide) ?_
  refine sh_iadd dc_Law_law_291 ?_
  refine sh_ialdS dc_Law_law_292 q1 ?_
  rw [v1]
  refine sh_aload_n dc_Law_law_293 rfl rfl ?_
  refine sh_iload dc_Law_law_294 rfl ?_
  refine sh_iconst (v := 2) dc_Law_law_296 (by decide) ?_
  refine sh_iadd dc_Law_law_297 ?_
  refine sh_ialdS dc_Law_law_298 q2 ?_
  rw [v2]
  refine sh_aload_n dc_Law_law_299 rfl rfl ?_
  refine sh_iload dc_Law_law_300 rfl ?_
  refine sh_iconst (v := 3) dc_Law_law_302 (by decide) ?_
  refine sh_iadd dc_Law_law_303 ?_
  refine sh_ialdS dc_Law_law_304 q3 ?_
  rw [v3]
  refine sh_aload_n dc_Law_law_305 rfl rfl ?_
  refine sh_iload dc_Law_law_306 rfl ?_
  refine sh_iconst (v := 4) dc_Law_law_308 (by decide) ?_
  refine sh_iadd dc_Law_law_309 ?_
  refine sh_ialdS dc_Law_law_310 q4 ?_
  rw [v4]
  refine sh_i2d dc_Law_law_311 ?_
  refine sh_ldc2d dc_Law_law_312 wd_1078 ?_
  refine sh_dmul dc_Law_law_315 (fp_eighth e4) ?_
  obtain ⟨h3, x1, g1, m1⟩ := hM n2 h2 h2 w2.2.1 sh_Fr.rf
  have w3 := lw_mod w2 x1 g1
  refine sh_callR (sh_virt (As := [.int e1, .int e2, .int e3, .double (FP.dmul (FP.i2d e4) 4593671619917905920)]) dc_Law_law_316 lm_Mod_acquire ln_Law_87 wd_966 wd_967 rfl rfl (Nat.le_of_ble_eq_true rfl) w2.2.1.1 rfl) m1 ⟨by decide, Nat.le_of_ble_eq_true rfl, by show cs+9 + 0 ≤ room_1.cells; omega, by show ss+54 + 0 ≤ room_1.slots; omega⟩ ?_
  refine sh_istore dc_Law_law_319 (by decide) ?_
  refine sh_aload_n dc_Law_law_321 rfl rfl ?_
  obtain ⟨h4, x2, g2, m2⟩ := (mx_Mod_thrown_1 (mq := mq) (A := B) (I := I') (D := D')) n2 h3 h3 w3.2.1 sh_Fr.rf
  have w4 := lw_mod w3 x2 g2
  refine sh_callR (sh_virt (As := []) dc_Law_law_322 lm_Mod_thrown ln_Law_74 wd_944 wd_945 rfl rfl (Nat.le_of_ble_eq_true rfl) w3.2.1.1 rfl) m2 ⟨by decide, Nat.le_of_ble_eq_true rfl, by show cs+9+0 + 0 ≤ room_1.cells; omega, by show ss+54+0 + 0 ≤ room_1.slots; omega⟩ ?_
  refine sh_iload dc_Law_law_325 rfl ?_
  refine sh_icmp_eq (tgt := 332) dc_Law_law_327 (by decide) (fun _ => ?_) (fun z => absurd e00 z)
  refine sh_iload dc_Law_law_332 rfl ?_
  refine sh_if_ne (tgt := 349) dc_Law_law_334 (by decide) (fun _ => ?_) (fun z => absurd z (by decide))
  refine sh_goto_ (tgt := 1050) dc_Law_law_349 (by decide) ?_
  refine sh_lvsub [2, 3, 4, 5, 6, 7] rfl ?_
  refine sh_widen (cs' := cs + 23) (ss' := ss + 116) (by show cs+9+0+0 ≤ cs + 23; omega) (by show ss+54+0+0 ≤ ss + 116; omega) ?_
  exact kk n2 h4 w4
theorem lc_acquire_t3 {A1 : Nat → Nat} {mq : Nat} {B : Nat → Nat} {sc oa od a n n1 cs ss : Nat} {K1 I I' : sh_II} {L1 D D' : sh_DD} {fs : List Value} {yo : Int64} {yd : UInt64} {h h1 : sh_Hp} {Z0 : sh_Zt} {N : Nat} {xs : Nat → Int32} {i e1 e2 e3 e4 : Int32} {u : Int32} (f0 : h a = some (false, 0, fs)) (q1 : vp_in (i + 1) N) (v1 : xs (i + 1).toNatClampNeg = e1) (q2 : vp_in (i + 2) N) (v2 : xs (i + 2).toNatClampNeg = e2) (q3 : vp_in (i + 3) N) (v3 : xs (i + 3).toNatClampNeg = e3) (q4 : vp_in (i + 4) N) (v4 : xs (i + 4).toNatClampNeg = e4) (w1 : lw_W A1 mq B oa od K1 L1 I D yo yd h1) (mC : sh_M md_Hall_acquire [.ref a, .int e1, .int e2, .int e3, .double (FP.dmul (FP.i2d e4) 4593671619917905920)] (n, h) (.inr (3, h1))) (hM : sh_mM mq B md_Mod_acquire [.ref mq, .int e1, .int e2, .int e3, .double (FP.dmul (FP.i2d e4) 4593671619917905920)] I D (some (.int u)) I' D') (e00 : I' 0 0 = 3) (hcs : cs + 23 ≤ room_1.cells) (hss : ss + 116 ≤ room_1.slots) (kk : ∀ n' h', lw_W A1 mq B oa od K1 L1 I' D' yo yd h' → sh_V md_Law_law (1050, [(5, .int i), (4, .ref od), (3, .ref oa), (2, .ref mq), (1, .ref a), (0, .ref sc)], []) (n', h') (cs + 23) (ss + 116) (lw_G sc N xs Z0)) : sh_V md_Law_law (250, [(5, .int i), (4, .ref od), (3, .ref oa), (2, .ref mq), (1, .ref a), (0, .ref sc)], []) (n, h) cs ss (lw_G sc N xs Z0) := by
  refine sh_aload_n dc_Law_law_250 rfl rfl ?_
  refine sh_aload_n dc_Law_law_251 rfl rfl ?_
  refine sh_iload dc_Law_law_252 rfl ?_
  refine sh_iconst (v := 1) dc_Law_law_254 (by decide) ?_
  refine sh_iadd dc_Law_law_255 ?_
  refine sh_ialdS dc_Law_law_256 q1 ?_
  rw [v1]
  refine sh_aload_n dc_Law_law_257 rfl rfl ?_
  refine sh_iload dc_Law_law_258 rfl ?_
  refine sh_iconst (v := 2) dc_Law_law_260 (by decide) ?_
  refine sh_iadd dc_Law_law_261 ?_
  refine sh_ialdS dc_Law_law_262 q2 ?_
  rw [v2]
  refine sh_aload_n dc_Law_law_263 rfl rfl ?_
  refine sh_iload dc_Law_law_264 rfl ?_
  refine sh_iconst (v := 3) dc_Law_law_266 (by decide) ?_
  refine sh_iadd dc_Law_law_267 ?_
  refine sh_ialdS dc_Law_law_268 q3 ?_
  rw [v3]
  refine sh_aload_n dc_Law_law_269 rfl rfl ?_
  refine sh_iload dc_Law_law_270 rfl ?_
  refine sh_iconst (v := 4) dc_Law_law_272 (by decide) ?_
  refine sh_iadd dc_Law_law_273 ?_
  refine sh_ialdS dc_Law_law_274 q4 ?_
  rw [v4]
  refine sh_i2d dc_Law_law_275 ?_
  refine sh_ldc2d dc_Law_law_276 wd_1078 ?_
  refine sh_dmul dc_Law_law_279 (fp_eighth e4) ?_
  refine sh_aload_n dc_Law_law_280 rfl rfl ?_
  refine sh_callQ (sh_statW (n := 6) (As := [.ref a, .int e1, .int e2, .int e3, .double (FP.dmul (FP.i2d e4) 4593671619917905920), .ref oa]) dc_Law_law_281 wd_456 ⟨by decide, by decide⟩ (by decide) (by decide +kernel) ln_Law_84 wd_455 wd_48 rfl rfl (Nat.le_of_ble_eq_true rfl)) (lt_acquire_3 f0 mC) ⟨by decide, Nat.le_of_ble_eq_true rfl, by show cs + 9 ≤ room_1.cells; omega, by show ss + 54 ≤ room_1.slots; omega⟩ ?_
  intro n2 h2 eh
  have w2 : lw_W A1 mq B oa od K1 L1 I D yo yd h2 := by rw [eh]; exact w1
  refine sh_istore dc_Law_law_284 (by decide) ?_
  refine sh_aload_n dc_Law_law_286 rfl rfl ?_
  refine sh_aload_n dc_Law_law_287 rfl rfl ?_
  refine sh_iload dc_Law_law_288 rfl ?_
  refine sh_iconst (v := 1) dc_Law_law_290 (by decide) ?_
  refine sh_iadd dc_Law_law_291 ?_
  refine sh_ialdS dc_Law_law_292 q1 ?_
  rw [v1]
  refine sh_aload_n dc_Law_law_293 rfl rfl ?_
  refine sh_iload dc_Law_law_294 rfl ?_
  refine sh_iconst (v := 2) dc_Law_law_296 (by decide) ?_
  refine sh_iadd dc_Law_law_297 ?_
  refine sh_ialdS dc_Law_law_298 q2 ?_
  rw [v2]
  refine sh_aload_n dc_Law_law_299 rfl rfl ?_
  refine sh_iload dc_Law_law_300 rfl ?_
  refine sh_iconst (v := 3) dc_Law_law_302 (by decide) ?_
  refine sh_iadd dc_Law_law_303 ?_
  refine sh_ialdS dc_Law_law_304 q3 ?_
  rw [v3]
  refine sh_aload_n dc_Law_law_305 rfl rfl ?_
  refine sh_iload dc_Law_law_306 rfl ?_
  refine sh_iconst (v := 4) dc_Law_law_308 (by decide) ?_
  refine sh_iadd dc_Law_law_309 ?_
  refine sh_ialdS dc_Law_law_310 q4 ?_
  rw [v4]
  refine sh_i2d dc_Law_law_311 ?_
  refine sh_ldc2d dc_Law_law_312 wd_1078 ?_
  refine sh_dmul dc_Law_law_315 (fp_eighth e4) ?_
  obtain ⟨h3, x1, g1, m1⟩ := hM n2 h2 h2 w2.2.1 sh_Fr.rf
  have w3 := lw_mod w2 x1 g1
  refine sh_callR (sh_virt (As := [.int e1, .int e2, .int e3, .double (FP.dmul (FP.i2d e4) 4593671619917905920)]) dc_Law_law_316 lm_Mod_acquire ln_Law_87 wd_966 wd_967 rfl rfl (Nat.le_of_ble_eq_true rfl) w2.2.1.1 rfl) m1 ⟨by decide, Nat.le_of_ble_eq_true rfl, by show cs+9 + 0 ≤ room_1.cells; omega, by show ss+54 + 0 ≤ room_1.slots; omega⟩ ?_
  refine sh_istore dc_Law_law_319 (by decide) ?_
  refine sh_aload_n dc_Law_law_321 rfl rfl ?_
  obtain ⟨h4, x2, g2, m2⟩ := (mx_Mod_thrown_1 (mq := mq) (A := B) (I := I') (D := D')) n2 h3 h3 w3.2.1 sh_Fr.rf
  have w4 := lw_mod w3 x2 g2
  refine sh_callR (sh_virt (As := []) dc_Law_law_322 lm_Mod_thrown ln_Law_74 wd_944 wd_945 rfl rfl (Nat.le_of_ble_eq_true rfl) w3.2.1.1 rfl) m2 ⟨by decide, Nat.le_of_ble_eq_true rfl, by show cs+9+0 + 0 ≤ room_1.cells; omega, by show ss+54+0 + 0 ≤ room_1.slots; omega⟩ ?_
  refine sh_iload dc_Law_law_325 rfl ?_
  refine sh_icmp_eq (tgt := 332) dc_Law_law_327 (by decide) (fun _ => ?_) (fun z => absurd e00 z)
  refine sh_iload dc_Law_law_332 rfl ?_
  refine sh_if_ne (tgt := 349) dc_Law_law_334 (by decide) (fun _ => ?_) (fun z => absurd z (by decide))
  refine sh_goto_ (tgt := 1050) dc_Law_law_349 (by decide) ?_
  refine sh_lvsub [2, 3, 4, 5, 6, 7] rfl ?_
  refine sh_widen (cs' := cs + 23) (ss' := ss + 116) (by show cs+9+0+0 ≤ cs + 23; omega) (by show ss+54+0+0 ≤ ss + 116; omega) ?_
  exact kk n2 h4 w4
theorem lc_acquire_t4 {A1 : Nat → Nat} {mq : Nat} {B : Nat → Nat} {sc oa od a n n1 cs ss : Nat} {K1 I I' : sh_II} {L1 D D' : sh_DD} {fs : List Value} {yo : Int64} {yd : UInt64} {h h1 : sh_Hp} {Z0 : sh_Zt} {N : Nat} {xs : Nat → Int32} {i e1 e2 e3 e4 : Int32} {u : Int32} (f0 : h a = some (false, 0, fs)) (q1 : vp_in (i + 1) N) (v1 : xs (i + 1).toNatClampNeg = e1) (q2 : vp_in (i + 2) N) (v2 : xs (i + 2).toNatClampNeg = e2) (q3 : vp_in (i + 3) N) (v3 : xs (i + 3).toNatClampNeg = e3) (q4 : vp_in (i + 4) N) (v4 : xs (i + 4).toNatClampNeg = e4) (w1 : lw_W A1 mq B oa od K1 L1 I D yo yd h1) (mC : sh_M md_Hall_acquire [.ref a, .int e1, .int e2, .int e3, .double (FP.dmul (FP.i2d e4) 4593671619917905920)] (n, h) (.inr (4, h1))) (hM : sh_mM mq B md_Mod_acquire [.ref mq, .int e1, .int e2, .int e3, .double (FP.dmul (FP.i2d e4) 4593671619917905920)] I D (some (.int u)) I' D') (e00 : I' 0 0 = 4) (hcs : cs + 23 ≤ room_1.cells) (hss : ss + 116 ≤ room_1.slots) (kk : ∀ n' h', lw_W A1 mq B oa od K1 L1 I' D' yo yd h' → sh_V md_Law_law (1050, [(5, .int i), (4, .ref od), (3, .ref oa), (2, .ref mq), (1, .ref a), (0, .ref sc)], []) (n', h') (cs + 23) (ss + 116) (lw_G sc N xs Z0)) : sh_V md_Law_law (250, [(5, .int i), (4, .ref od), (3, .ref oa), (2, .ref mq), (1, .ref a), (0, .ref sc)], []) (n, h) cs ss (lw_G sc N xs Z0) := by
  refine sh_aload_n dc_Law_law_250 rfl rfl ?_
  refine sh_aload_n dc_Law_law_251 rfl rfl ?_
  refine sh_iload dc_Law_law_252 rfl ?_
  refine sh_iconst (v := 1) dc_Law_law_254 (by decide) ?_
  refine sh_iadd dc_Law_law_255 ?_
  refine sh_ialdS dc_Law_law_256 q1 ?_
  rw [v1]
  refine sh_aload_n dc_Law_law_257 rfl rfl ?_
  refine sh_iload dc_Law_law_258 rfl ?_
  refine sh_iconst (v := 2) dc_Law_law_260 (by decide) ?_
  refine sh_iadd dc_Law_law_261 ?_
  refine sh_ialdS dc_Law_law_262 q2 ?_
  rw [v2]
  refine sh_aload_n dc_Law_law_263 rfl rfl ?_
  refine sh_iload dc_Law_law_264 rfl ?_
  refine sh_iconst (v := 3) dc_Law_law_266 (by decide) ?_
  refine sh_iadd dc_Law_law_267 ?_
  refine sh_ialdS dc_Law_law_268 q3 ?_
  rw [v3]
  refine sh_aload_n dc_Law_law_269 rfl rfl ?_
  refine sh_iload dc_Law_law_270 rfl ?_
  refine sh_iconst (v := 4) dc_Law_law_272 (by decide) ?_
  refine sh_iadd dc_Law_law_273 ?_
  refine sh_ialdS dc_Law_law_274 q4 ?_
  rw [v4]
  refine sh_i2d dc_Law_law_275 ?_
  refine sh_ldc2d dc_Law_law_276 wd_1078 ?_
  refine sh_dmul dc_Law_law_279 (fp_eighth e4) ?_
  refine sh_aload_n dc_Law_law_280 rfl rfl ?_
  refine sh_callQ (sh_statW (n := 6) (As := [.ref a, .int e1, .int e2, .int e3, .double (FP.dmul (FP.i2d e4) 4593671619917905920), .ref oa]) dc_Law_law_281 wd_456 ⟨by decide, by decide⟩ (by decide) (by decide +kernel) ln_Law_84 wd_455 wd_48 rfl rfl (Nat.le_of_ble_eq_true rfl)) (lt_acquire_4 f0 mC) ⟨by decide, Nat.le_of_ble_eq_true rfl, by show cs + 9 ≤ room_1.cells; omega, by show ss + 54 ≤ room_1.slots; omega⟩ ?_
  intro n2 h2 eh
  have w2 : lw_W A1 mq B oa od K1 L1 I D yo yd h2 := by rw [eh]; exact w1
  refine sh_istore dc_Law_law_284 (by decide) ?_
  refine sh_aload_n dc_Law_law_286 rfl rfl ?_
  refine sh_aload_n dc_Law_law_287 rfl rfl ?_
  refine sh_iload dc_Law_law_288 rfl ?_
  refine sh_iconst (v := 1) dc_Law_law_290 (by decide) ?_
  refine sh_iadd dc_Law_law_291 ?_
  refine sh_ialdS dc_Law_law_292 q1 ?_
  rw [v1]
  refine sh_aload_n dc_Law_law_293 rfl rfl ?_
  refine sh_iload dc_Law_law_294 rfl ?_
  refine sh_iconst (v := 2) dc_Law_law_296 (by decide) ?_
  refine sh_iadd dc_Law_law_297 ?_
  refine sh_ialdS dc_Law_law_298 q2 ?_
  rw [v2]
  refine sh_aload_n dc_Law_law_299 rfl rfl ?_
  refine sh_iload dc_Law_law_300 rfl ?_
  refine sh_iconst (v := 3) dc_Law_law_302 (by decide) ?_
  refine sh_iadd dc_Law_law_303 ?_
  refine sh_ialdS dc_Law_law_304 q3 ?_
  rw [v3]
  refine sh_aload_n dc_Law_law_305 rfl rfl ?_
  refine sh_iload dc_Law_law_306 rfl ?_
  refine sh_iconst (v := 4) dc_Law_law_308 (by decide) ?_
  refine sh_iadd dc_Law_law_309 ?_
  refine sh_ialdS dc_Law_law_310 q4 ?_
  rw [v4]
  refine sh_i2d dc_Law_law_311 ?_
  refine sh_ldc2d dc_Law_law_312 wd_1078 ?_
  refine sh_dmul dc_Law_law_315 (fp_eighth e4) ?_
  obtain ⟨h3, x1, g1, m1⟩ := hM n2 h2 h2 w2.2.1 sh_Fr.rf
  have w3 := lw_mod w2 x1 g1
  refine sh_callR (sh_virt (As := [.int e1, .int e2, .int e3, .double (FP.dmul (FP.i2d e4) 4593671619917905920)]) dc_Law_law_316 lm_Mod_acquire ln_Law_87 wd_966 wd_967 rfl rfl (Nat.le_of_ble_eq_true rfl) w2.2.1.1 rfl) m1 ⟨by decide, Nat.le_of_ble_eq_true rfl, by show cs+9 + 0 ≤ room_1.cells; omega, by show ss+54 + 0 ≤ room_1.slots; omega⟩ ?_
  refine sh_istore dc_Law_law_319 (by decide) ?_
  refine sh_aload_n dc_Law_law_321 rfl rfl ?_
  obtain ⟨h4, x2, g2, m2⟩ := (mx_Mod_thrown_1 (mq := mq) (A := B) (I := I') (D := D')) n2 h3 h3 w3.2.1 sh_Fr.rf
  have w4 := lw_mod w3 x2 g2
  refine sh_callR (sh_virt (As := []) dc_Law_law_322 lm_Mod_thrown ln_Law_74 wd_944 wd_945 rfl rfl (Nat.le_of_ble_eq_true rfl) w3.2.1.1 rfl) m2 ⟨by decide, Nat.le_of_ble_eq_true rfl, by show cs+9+0 + 0 ≤ room_1.cells; omega, by show ss+54+0 + 0 ≤ room_1.slots; omega⟩ ?_
  refine sh_iload dc_Law_law_325 rfl ?_
  refine sh_icmp_eq (tgt := 332) dc_Law_law_327 (by decide) (fun _ => ?_) (fun z => absurd e00 z)
  refine sh_iload dc_Law_law_332 rfl ?_
  refine sh_if_ne (tgt := 349) dc_Law_law_334 (by decide) (fun _ => ?_) (fun z => absurd z (by decide))
  refine sh_goto_ (tgt := 1050) dc_Law_law_349 (by decide) ?_
  refine sh_lvsub [2, 3, 4, 5, 6, 7] rfl ?_
  refine sh_widen (cs' := cs + 23) (ss' := ss + 116) (by show cs+9+0+0 ≤ cs + 23; omega) (by show ss+54+0+0 ≤ ss + 116; omega) ?_
  exact kk n2 h4 w4
theorem lc_release_r {A1 : Nat → Nat} {mq : Nat} {B : Nat → Nat} {sc oa od a n n1 cs ss : Nat} {K1 I I' : sh_II} {L1 D D' : sh_DD} {fs : List Value} {yo : Int64} {yd : UInt64} {h h1 : sh_Hp} {Z0 : sh_Zt} {N : Nat} {xs : Nat → Int32} {i e1 e2 e3 : Int32} {v : Int32} (f0 : h a = some (false, 0, fs)) (q1 : vp_in (i + 1) N) (v1 : xs (i + 1).toNatClampNeg = e1) (q2 : vp_in (i + 2) N) (v2 : xs (i + 2).toNatClampNeg = e2) (q3 : vp_in (i + 3) N) (v3 : xs (i + 3).toNatClampNeg = e3) (w1 : lw_W A1 mq B oa od K1 L1 I D yo yd h1) (mC : sh_M md_Hall_release [.ref a, .int e1, .int e2, .int e3] (n, h) (.inl (some (.int v), (n1, h1)))) (hM : sh_mM mq B md_Mod_release [.ref mq, .int e1, .int e2, .int e3] I D (some (.int v)) I' D') (e00 : I' 0 0 = 0) (hcs : cs + 23 ≤ room_1.cells) (hss : ss + 116 ≤ room_1.slots) (kk : ∀ n' h', lw_W A1 mq B oa od K1 L1 I' D' v.toInt64 yd h' → sh_V md_Law_law (1050, [(5, .int i), (4, .ref od), (3, .ref oa), (2, .ref mq), (1, .ref a), (0, .ref sc)], []) (n', h') (cs + 23) (ss + 116) (lw_G sc N xs Z0)) : sh_V md_Law_law (352, [(5, .int i), (4, .ref od), (3, .ref oa), (2, .ref mq), (1, .ref a), (0, .ref sc)], []) (n, h) cs ss (lw_G sc N xs Z0) := by
  refine sh_aload_n dc_Law_law_352 rfl rfl ?_
  refine sh_aload_n dc_Law_law_353 rfl rfl ?_
  refine sh_iload dc_Law_law_354 rfl ?_
  refine sh_iconst (v := 1) dc_Law_law_356 (by decide) ?_
  refine sh_iadd dc_Law_law_357 ?_
  refine sh_ialdS dc_Law_law_358 q1 ?_
  rw [v1]
  refine sh_aload_n dc_Law_law_359 rfl rfl ?_
  refine sh_iload dc_Law_law_360 rfl ?_
  refine sh_iconst (v := 2) dc_Law_law_362 (by decide) ?_
  refine sh_iadd dc_Law_law_363 ?_
  refine sh_ialdS dc_Law_law_364 q2 ?_
  rw [v2]
  refine sh_aload_n dc_Law_law_365 rfl rfl ?_
  refine sh_iload dc_Law_law_366 rfl ?_
  refine sh_iconst (v := 3) dc_Law_law_368 (by decide) ?_
  refine sh_iadd dc_Law_law_369 ?_
  refine sh_ialdS dc_Law_law_370 q3 ?_
  rw [v3]
  refine sh_aload_n dc_Law_law_371 rfl rfl ?_
  refine sh_callQ (sh_statW (n := 5) (As := [.ref a, .int e1, .int e2, .int e3, .ref oa]) dc_Law_law_372 wd_623 ⟨by decide, by decide⟩ (by decide) (by decide +kernel) ln_Law_88 wd_622 wd_48 rfl rfl (Nat.le_of_ble_eq_true rfl)) (lr_release f0 mC w1.2.2.1) ⟨by decide, Nat.le_of_ble_eq_true rfl, by show cs + 8 ≤ room_1.cells; omega, by show ss + 48 ≤ room_1.slots; omega⟩ ?_
  intro n2 h2 eh
  have w2 : lw_W A1 mq B oa od K1 L1 I D v.toInt64 yd h2 := by rw [eh]; exact lw_out w1
  refine sh_istore dc_Law_law_375 (by decide) ?_
  refine sh_aload_n dc_Law_law_377 rfl rfl ?_
  refine sh_aload_n dc_Law_law_378 rfl rfl ?_
  refine sh_iload dc_Law_law_379 rfl ?_
  refine sh_iconst (v := 1) dc_Law_law_381 (by decide) ?_
  refine sh_iadd dc_Law_law_382 ?_
  refine sh_ialdS dc_Law_law_383 q1 ?_
  rw [v1]
  refine sh_aload_n dc_Law_law_384 rfl rfl ?_
  refine sh_iload dc_Law_law_385 rfl ?_
  refine sh_iconst (v := 2) dc_Law_law_387 (by decide) ?_
  refine sh_iadd dc_Law_law_388 ?_
  refine sh_ialdS dc_Law_law_389 q2 ?_
  rw [v2]
  refine sh_aload_n dc_Law_law_390 rfl rfl ?_
  refine sh_iload dc_Law_law_391 rfl ?_
  refine sh_iconst (v := 3) dc_Law_law_393 (by decide) ?_
  refine sh_iadd dc_Law_law_394 ?_
  refine sh_ialdS dc_Law_law_395 q3 ?_
  rw [v3]
  obtain ⟨h3, x1, g1, m1⟩ := hM n2 h2 h2 w2.2.1 sh_Fr.rf
  have w3 := lw_mod w2 x1 g1
  refine sh_callR (sh_virt (As := [.int e1, .int e2, .int e3]) dc_Law_law_396 lm_Mod_release ln_Law_90 wd_1011 wd_1012 rfl rfl (Nat.le_of_ble_eq_true rfl) w2.2.1.1 rfl) m1 ⟨by decide, Nat.le_of_ble_eq_true rfl, by show cs+8 + 0 ≤ room_1.cells; omega, by show ss+48 + 0 ≤ room_1.slots; omega⟩ ?_
  refine sh_istore dc_Law_law_399 (by decide) ?_
  refine sh_aload_n dc_Law_law_401 rfl rfl ?_
  obtain ⟨h4, x2, g2, m2⟩ := (mx_Mod_thrown_1 (mq := mq) (A := B) (I := I') (D := D')) n2 h3 h3 w3.2.1 sh_Fr.rf
  have w4 := lw_mod w3 x2 g2
  refine sh_callR (sh_virt (As := []) dc_Law_law_402 lm_Mod_thrown ln_Law_74 wd_944 wd_945 rfl rfl (Nat.le_of_ble_eq_true rfl) w3.2.1.1 rfl) m2 ⟨by decide, Nat.le_of_ble_eq_true rfl, by show cs+8+0 + 0 ≤ room_1.cells; omega, by show ss+48+0 + 0 ≤ room_1.slots; omega⟩ ?_
  refine sh_iload dc_Law_law_405 rfl ?_
  refine sh_icmp_eq (tgt := 412) dc_Law_law_407 (by decide) (fun _ => ?_) (fun z => absurd e00 z)
  refine sh_iload dc_Law_law_412 rfl ?_
  refine sh_if_ne (tgt := 429) dc_Law_law_414 (by decide) (fun z => absurd (by decide) z) (fun _ => ?_)
  refine sh_aload_n dc_Law_law_417 rfl rfl ?_
  refine sh_iconst (v := 0) dc_Law_law_418 (by decide) ?_
  refine sh_lald (i := 0) dc_Law_law_419 w4.2.2.1 rfl (by decide) rfl ?_
  refine sh_iload dc_Law_law_420 rfl ?_
  refine sh_i2l dc_Law_law_422 ?_
  refine sh_lcmp dc_Law_law_423 ?_
  refine sh_if_eq (tgt := 429) dc_Law_law_424 (by decide) (fun _ => ?_) (fun z => absurd (by decide) z)
  refine sh_goto_ (tgt := 1050) dc_Law_law_429 (by decide) ?_
  refine sh_lvsub [2, 3, 4, 5, 6, 7] rfl ?_
  refine sh_widen (cs' := cs + 23) (ss' := ss + 116) (by show cs+8+0+0 ≤ cs + 23; omega) (by show ss+48+0+0 ≤ ss + 116; omega) ?_
  exact kk n2 h4 w4
theorem lc_release_t1 {A1 : Nat → Nat} {mq : Nat} {B : Nat → Nat} {sc oa od a n n1 cs ss : Nat} {K1 I I' : sh_II} {L1 D D' : sh_DD} {fs : List Value} {yo : Int64} {yd : UInt64} {h h1 : sh_Hp} {Z0 : sh_Zt} {N : Nat} {xs : Nat → Int32} {i e1 e2 e3 : Int32} {u : Int32} (f0 : h a = some (false, 0, fs)) (q1 : vp_in (i + 1) N) (v1 : xs (i + 1).toNatClampNeg = e1) (q2 : vp_in (i + 2) N) (v2 : xs (i + 2).toNatClampNeg = e2) (q3 : vp_in (i + 3) N) (v3 : xs (i + 3).toNatClampNeg = e3) (w1 : lw_W A1 mq B oa od K1 L1 I D yo yd h1) (mC : sh_M md_Hall_release [.ref a, .int e1, .int e2, .int e3] (n, h) (.inr (1, h1))) (hM : sh_mM mq B md_Mod_release [.ref mq, .int e1, .int e2, .int e3] I D (some (.int u)) I' D') (e00 : I' 0 0 = 1) (hcs : cs + 23 ≤ room_1.cells) (hss : ss + 116 ≤ room_1.slots) (kk : ∀ n' h', lw_W A1 mq B oa od K1 L1 I' D' yo yd h' → sh_V md_Law_law (1050, [(5, .int i), (4, .ref od), (3, .ref oa), (2, .ref mq), (1, .ref a), (0, .ref sc)], []) (n', h') (cs + 23) (ss + 116) (lw_G sc N xs Z0)) : sh_V md_Law_law (352, [(5, .int i), (4, .ref od), (3, .ref oa), (2, .ref mq), (1, .ref a), (0, .ref sc)], []) (n, h) cs ss (lw_G sc N xs Z0) := by
  refine sh_aload_n dc_Law_law_352 rfl rfl ?_
  refine sh_aload_n dc_Law_law_353 rfl rfl ?_
  refine sh_iload dc_Law_law_354 rfl ?_
  refine sh_iconst (v := 1) dc_Law_law_356 (by decide) ?_
  refine sh_iadd dc_Law_law_357 ?_
  refine sh_ialdS dc_Law_law_358 q1 ?_
  rw [v1]
  refine sh_aload_n dc_Law_law_359 rfl rfl ?_
  refine sh_iload dc_Law_law_360 rfl ?_
  refine sh_iconst (v := 2) dc_Law_law_362 (by decide) ?_
  refine sh_iadd dc_Law_law_363 ?_
  refine sh_ialdS dc_Law_law_364 q2 ?_
  rw [v2]
  refine sh_aload_n dc_Law_law_365 rfl rfl ?_
  refine sh_iload dc_Law_law_366 rfl ?_
  refine sh_iconst (v := 3) dc_Law_law_368 (by decide) ?_
  refine sh_iadd dc_Law_law_369 ?_
  refine sh_ialdS dc_Law_law_370 q3 ?_
  rw [v3]
  refine sh_aload_n dc_Law_law_371 rfl rfl ?_
  refine sh_callQ (sh_statW (n := 5) (As := [.ref a, .int e1, .int e2, .int e3, .ref oa]) dc_Law_law_372 wd_623 ⟨by decide, by decide⟩ (by decide) (by decide +kernel) ln_Law_88 wd_622 wd_48 rfl rfl (Nat.le_of_ble_eq_true rfl)) (lt_release_1 f0 mC) ⟨by decide, Nat.le_of_ble_eq_true rfl, by show cs + 8 ≤ room_1.cells; omega, by show ss + 48 ≤ room_1.slots; omega⟩ ?_
  intro n2 h2 eh
  have w2 : lw_W A1 mq B oa od K1 L1 I D yo yd h2 := by rw [eh]; exact w1
  refine sh_istore dc_Law_law_375 (by decide) ?_
  refine sh_aload_n dc_Law_law_377 rfl rfl ?_
  refine sh_aload_n dc_Law_law_378 rfl rfl ?_
  refine sh_iload dc_Law_law_379 rfl ?_
  refine sh_iconst (v := 1) dc_Law_law_381 (by decide) ?_
  refine sh_iadd dc_Law_law_382 ?_
  refine sh_ialdS dc_Law_law_383 q1 ?_
  rw [v1]
  refine sh_aload_n dc_Law_law_384 rfl rfl ?_
  refine sh_iload dc_Law_law_385 rfl ?_
  refine sh_iconst (v := 2) dc_Law_law_387 (by decide) ?_
  refine sh_iadd dc_Law_law_388 ?_
  refine sh_ialdS dc_Law_law_389 q2 ?_
  rw [v2]
  refine sh_aload_n dc_Law_law_390 rfl rfl ?_
  refine sh_iload dc_Law_law_391 rfl ?_
  refine sh_iconst (v := 3) dc_Law_law_393 (by decide) ?_
  refine sh_iadd dc_Law_law_394 ?_
  refine sh_ialdS dc_Law_law_395 q3 ?_
  rw [v3]
  obtain ⟨h3, x1, g1, m1⟩ := hM n2 h2 h2 w2.2.1 sh_Fr.rf
  have w3 := lw_mod w2 x1 g1
  refine sh_callR (sh_virt (As := [.int e1, .int e2, .int e3]) dc_Law_law_396 lm_Mod_release ln_Law_90 wd_1011 wd_1012 rfl rfl (Nat.le_of_ble_eq_true rfl) w2.2.1.1 rfl) m1 ⟨by decide, Nat.le_of_ble_eq_true rfl, by show cs+8 + 0 ≤ room_1.cells; omega, by show ss+48 + 0 ≤ room_1.slots; omega⟩ ?_
  refine sh_istore dc_Law_law_399 (by decide) ?_
  refine sh_aload_n dc_Law_law_401 rfl rfl ?_
  obtain ⟨h4, x2, g2, m2⟩ := (mx_Mod_thrown_1 (mq := mq) (A := B) (I := I') (D := D')) n2 h3 h3 w3.2.1 sh_Fr.rf
  have w4 := lw_mod w3 x2 g2
  refine sh_callR (sh_virt (As := []) dc_Law_law_402 lm_Mod_thrown ln_Law_74 wd_944 wd_945 rfl rfl (Nat.le_of_ble_eq_true rfl) w3.2.1.1 rfl) m2 ⟨by decide, Nat.le_of_ble_eq_true rfl, by show cs+8+0 + 0 ≤ room_1.cells; omega, by show ss+48+0 + 0 ≤ room_1.slots; omega⟩ ?_
  refine sh_iload dc_Law_law_405 rfl ?_
  refine sh_icmp_eq (tgt := 412) dc_Law_law_407 (by decide) (fun _ => ?_) (fun z => absurd e00 z)
  refine sh_iload dc_Law_law_412 rfl ?_
  refine sh_if_ne (tgt := 429) dc_Law_law_414 (by decide) (fun _ => ?_) (fun z => absurd z (by decide))
  refine sh_goto_ (tgt := 1050) dc_Law_law_429 (by decide) ?_
  refine sh_lvsub [2, 3, 4, 5, 6, 7] rfl ?_
  refine sh_widen (cs' := cs + 23) (ss' := ss + 116) (by show cs+8+0+0 ≤ cs + 23; omega) (by show ss+48+0+0 ≤ ss + 116; omega) ?_
  exact kk n2 h4 w4
theorem lc_release_t2 {A1 : Nat → Nat} {mq : Nat} {B : Nat → Nat} {sc oa od a n n1 cs ss : Nat} {K1 I I' : sh_II} {L1 D D' : sh_DD} {fs : List Value} {yo : Int64} {yd : UInt64} {h h1 : sh_Hp} {Z0 : sh_Zt} {N : Nat} {xs : Nat → Int32} {i e1 e2 e3 : Int32} {u : Int32} (f0 : h a = some (false, 0, fs)) (q1 : vp_in (i + 1) N) (v1 : xs (i + 1).toNatClampNeg = e1) (q2 : vp_in (i + 2) N) (v2 : xs (i + 2).toNatClampNeg = e2) (q3 : vp_in (i + 3) N) (v3 : xs (i + 3).toNatClampNeg = e3) (w1 : lw_W A1 mq B oa od K1 L1 I D yo yd h1) (mC : sh_M md_Hall_release [.ref a, .int e1, .int e2, .int e3] (n, h) (.inr (2, h1))) (hM : sh_mM mq B md_Mod_release [.ref mq, .int e1, .int e2, .int e3] I D (some (.int u)) I' D') (e00 : I' 0 0 = 2) (hcs : cs + 23 ≤ room_1.cells) (hss : ss + 116 ≤ room_1.slots) (kk : ∀ n' h', lw_W A1 mq B oa od K1 L1 I' D' yo yd h' → sh_V md_Law_law (1050, [(5, .int i), (4, .ref od), (3, .ref oa), (2, .ref mq), (1, .ref a), (0, .ref sc)], []) (n', h') (cs + 23) (ss + 116) (lw_G sc N xs Z0)) : sh_V md_Law_law (352, [(5, .int i), (4, .ref od), (3, .ref oa), (2, .ref mq), (1, .ref a), (0, .ref sc)], []) (n, h) cs ss (lw_G sc N xs Z0) := by
  refine sh_aload_n dc_Law_law_352 rfl rfl ?_
  refine sh_aload_n dc_Law_law_353 rfl rfl ?_
  refine sh_iload dc_Law_law_354 rfl ?_
  refine sh_iconst (v := 1) dc_Law_law_356 (by decide) ?_
  refine sh_iadd dc_Law_law_357 ?_
  refine sh_ialdS dc_Law_law_358 q1 ?_
  rw [v1]
  refine sh_aload_n dc_Law_law_359 rfl rfl ?_
  refine sh_iload dc_Law_law_360 rfl ?_
  refine sh_iconst (v := 2) dc_Law_law_362 (by decide) ?_
  refine sh_iadd dc_Law_law_363 ?_
  refine sh_ialdS dc_Law_law_364 q2 ?_
  rw [v2]
  refine sh_aload_n dc_Law_law_365 rfl rfl ?_
  refine sh_iload dc_Law_law_366 rfl ?_
  refine sh_iconst (v := 3) dc_Law_law_368 (by decide) ?_
  refine sh_iadd dc_Law_law_369 ?_
  refine sh_ialdS dc_Law_law_370 q3 ?_
  rw [v3]
  refine sh_aload_n dc_Law_law_371 rfl rfl ?_
  refine sh_callQ (sh_statW (n := 5) (As := [.ref a, .int e1, .int e2, .int e3, .ref oa]) dc_Law_law_372 wd_623 ⟨by decide, by decide⟩ (by decide) (by decide +kernel) ln_Law_88 wd_622 wd_48 rfl rfl (Nat.le_of_ble_eq_true rfl)) (lt_release_2 f0 mC) ⟨by decide, Nat.le_of_ble_eq_true rfl, by show cs + 8 ≤ room_1.cells; omega, by show ss + 48 ≤ room_1.slots; omega⟩ ?_
  intro n2 h2 eh
  have w2 : lw_W A1 mq B oa od K1 L1 I D yo yd h2 := by rw [eh]; exact w1
  refine sh_istore dc_Law_law_375 (by decide) ?_
  refine sh_aload_n dc_Law_law_377 rfl rfl ?_
  refine sh_aload_n dc_Law_law_378 rfl rfl ?_
  refine sh_iload dc_Law_law_379 rfl ?_
  refine sh_iconst (v := 1) dc_Law_law_381 (by decide) ?_
  refine sh_iadd dc_Law_law_382 ?_
  refine sh_ialdS dc_Law_law_383 q1 ?_
  rw [v1]
  refine sh_aload_n dc_Law_law_384 rfl rfl ?_
  refine sh_iload dc_Law_law_385 rfl ?_
  refine sh_iconst (v := 2) dc_Law_law_387 (by decide) ?_
  refine sh_iadd dc_Law_law_388 ?_
  refine sh_ialdS dc_Law_law_389 q2 ?_
  rw [v2]
  refine sh_aload_n dc_Law_law_390 rfl rfl ?_
  refine sh_iload dc_Law_law_391 rfl ?_
  refine sh_iconst (v := 3) dc_Law_law_393 (by decide) ?_
  refine sh_iadd dc_Law_law_394 ?_
  refine sh_ialdS dc_Law_law_395 q3 ?_
  rw [v3]
  obtain ⟨h3, x1, g1, m1⟩ := hM n2 h2 h2 w2.2.1 sh_Fr.rf
  have w3 := lw_mod w2 x1 g1
  refine sh_callR (sh_virt (As := [.int e1, .int e2, .int e3]) dc_Law_law_396 lm_Mod_release ln_Law_90 wd_1011 wd_1012 rfl rfl (Nat.le_of_ble_eq_true rfl) w2.2.1.1 rfl) m1 ⟨by decide, Nat.le_of_ble_eq_true rfl, by show cs+8 + 0 ≤ room_1.cells; omega, by show ss+48 + 0 ≤ room_1.slots; omega⟩ ?_
  refine sh_istore dc_Law_law_399 (by decide) ?_
  refine sh_aload_n dc_Law_law_401 rfl rfl ?_
  obtain ⟨h4, x2, g2, m2⟩ := (mx_Mod_thrown_1 (mq := mq) (A := B) (I := I') (D := D')) n2 h3 h3 w3.2.1 sh_Fr.rf
  have w4 := lw_mod w3 x2 g2
  refine sh_callR (sh_virt (As := []) dc_Law_law_402 lm_Mod_thrown ln_Law_74 wd_944 wd_945 rfl rfl (Nat.le_of_ble_eq_true rfl) w3.2.1.1 rfl) m2 ⟨by decide, Nat.le_of_ble_eq_true rfl, by show cs+8+0 + 0 ≤ room_1.cells; omega, by show ss+48+0 + 0 ≤ room_1.slots; omega⟩ ?_
  refine sh_iload dc_Law_law_405 rfl ?_
  refine sh_icmp_eq (tgt := 412) dc_Law_law_407 (by decide) (fun _ => ?_) (fun z => absurd e00 z)
  refine sh_iload dc_Law_law_412 rfl ?_
  refine sh_if_ne (tgt := 429) dc_Law_law_414 (by decide) (fun _ => ?_) (fun z => absurd z (by decide))
  refine sh_goto_ (tgt := 1050) dc_Law_law_429 (by decide) ?_
  refine sh_lvsub [2, 3, 4, 5, 6, 7] rfl ?_
  refine sh_widen (cs' := cs + 23) (ss' := ss + 116) (by show cs+8+0+0 ≤ cs + 23; omega) (by show ss+48+0+0 ≤ ss + 116; omega) ?_
  exact kk n2 h4 w4
theorem lc_release_t3 {A1 : Nat → Nat} {mq : Nat} {B : Nat → Nat} {sc oa od a n n1 cs ss : Nat} {K1 I I' : sh_II} {L1 D D' : sh_DD} {fs : List Value} {yo : Int64} {yd : UInt64} {h h1 : sh_Hp} {Z0 : sh_Zt} {N : Nat} {xs : Nat → Int32} {i e1 e2 e3 : Int32} {u : Int32} (f0 : h a = some (false, 0, fs)) (q1 : vp_in (i + 1) N) (v1 : xs (i + 1).toNatClampNeg = e1) (q2 : vp_in (i + 2) N) (v2 : xs (i + 2).toNatClampNeg = e2) (q3 : vp_in (i + 3) N) (v3 : xs (i + 3).toNatClampNeg = e3) (w1 : lw_W A1 mq B oa od K1 L1 I D yo yd h1) (mC : sh_M md_Hall_release [.ref a, .int e1, .int e2, .int e3] (n, h) (.inr (3, h1))) (hM : sh_mM mq B md_Mod_release [.ref mq, .int e1, .int e2, .int e3] I D (some (.int u)) I' D') (e00 : I' 0 0 = 3) (hcs : cs + 23 ≤ room_1.cells) (hss : ss + 116 ≤ room_1.slots) (kk : ∀ n' h', lw_W A1 mq B oa od K1 L1 I' D' yo yd h' → sh_V md_Law_law (1050, [(5, .int i), (4, .ref od), (3, .ref oa), (2, .ref mq), (1, .ref a), (0, .ref sc)], []) (n', h') (cs + 23) (ss + 116) (lw_G sc N xs Z0)) : sh_V md_Law_law (352, [(5, .int i), (4, .ref od), (3, .ref oa), (2, .ref mq), (1, .ref a), (0, .ref sc)], []) (n, h) cs ss (lw_G sc N xs Z0) := by
  refine sh_aload_n dc_Law_law_352 rfl rfl ?_
  refine sh_aload_n dc_Law_law_353 rfl rfl ?_
  refine sh_iload dc_Law_law_354 rfl ?_
  refine sh_iconst (v := 1) dc_Law_law_356 (by decide) ?_
  refine sh_iadd dc_Law_law_357 ?_
  refine sh_ialdS dc_Law_law_358 q1 ?_
  rw [v1]
  refine sh_aload_n dc_Law_law_359 rfl rfl ?_
  refine sh_iload dc_Law_law_360 rfl ?_
  refine sh_iconst (v := 2) dc_Law_law_362 (by decide) ?_
  refine sh_iadd dc_Law_law_363 ?_
  refine sh_ialdS dc_Law_law_364 q2 ?_
  rw [v2]
  refine sh_aload_n dc_Law_law_365 rfl rfl ?_
  refine sh_iload dc_Law_law_366 rfl ?_
  refine sh_iconst (v := 3) dc_Law_law_368 (by decide) ?_
  refine sh_iadd dc_Law_law_369 ?_
  refine sh_ialdS dc_Law_law_370 q3 ?_
  rw [v3]
  refine sh_aload_n dc_Law_law_371 rfl rfl ?_
  refine sh_callQ (sh_statW (n := 5) (As := [.ref a, .int e1, .int e2, .int e3, .ref oa]) dc_Law_law_372 wd_623 ⟨by decide, by decide⟩ (by decide) (by decide +kernel) ln_Law_88 wd_622 wd_48 rfl rfl (Nat.le_of_ble_eq_true rfl)) (lt_release_3 f0 mC) ⟨by decide, Nat.le_of_ble_eq_true rfl, by show cs + 8 ≤ room_1.cells; omega, by show ss + 48 ≤ room_1.slots; omega⟩ ?_
  intro n2 h2 eh
  have w2 : lw_W A1 mq B oa od K1 L1 I D yo yd h2 := by rw [eh]; exact w1
  refine sh_istore dc_Law_law_375 (by decide) ?_
  refine sh_aload_n dc_Law_law_377 rfl rfl ?_
  refine sh_aload_n dc_Law_law_378 rfl rfl ?_
  refine sh_iload dc_Law_law_379 rfl ?_
  refine sh_iconst (v := 1) dc_Law_law_381 (by decide) ?_
  refine sh_iadd dc_Law_law_382 ?_
  refine sh_ialdS dc_Law_law_383 q1 ?_
  rw [v1]
  refine sh_aload_n dc_Law_law_384 rfl rfl ?_
  refine sh_iload dc_Law_law_385 rfl ?_
  refine sh_iconst (v := 2) dc_Law_law_387 (by decide) ?_
  refine sh_iadd dc_Law_law_388 ?_
  refine sh_ialdS dc_Law_law_389 q2 ?_
  rw [v2]
  refine sh_aload_n dc_Law_law_390 rfl rfl ?_
  refine sh_iload dc_Law_law_391 rfl ?_
  refine sh_iconst (v := 3) dc_Law_law_393 (by decide) ?_
  refine sh_iadd dc_Law_law_394 ?_
  refine sh_ialdS dc_Law_law_395 q3 ?_
  rw [v3]
  obtain ⟨h3, x1, g1, m1⟩ := hM n2 h2 h2 w2.2.1 sh_Fr.rf
  have w3 := lw_mod w2 x1 g1
  refine sh_callR (sh_virt (As := [.int e1, .int e2, .int e3]) dc_Law_law_396 lm_Mod_release ln_Law_90 wd_1011 wd_1012 rfl rfl (Nat.le_of_ble_eq_true rfl) w2.2.1.1 rfl) m1 ⟨by decide, Nat.le_of_ble_eq_true rfl, by show cs+8 + 0 ≤ room_1.cells; omega, by show ss+48 + 0 ≤ room_1.slots; omega⟩ ?_
  refine sh_istore dc_Law_law_399 (by decide) ?_
  refine sh_aload_n dc_Law_law_401 rfl rfl ?_
  obtain ⟨h4, x2, g2, m2⟩ := (mx_Mod_thrown_1 (mq := mq) (A := B) (I := I') (D := D')) n2 h3 h3 w3.2.1 sh_Fr.rf
  have w4 := lw_mod w3 x2 g2
  refine sh_callR (sh_virt (As := []) dc_Law_law_402 lm_Mod_thrown ln_Law_74 wd_944 wd_945 rfl rfl (Nat.le_of_ble_eq_true rfl) w3.2.1.1 rfl) m2 ⟨by decide, Nat.le_of_ble_eq_true rfl, by show cs+8+0 + 0 ≤ room_1.cells; omega, by show ss+48+0 + 0 ≤ room_1.slots; omega⟩ ?_
  refine sh_iload dc_Law_law_405 rfl ?_
  refine sh_icmp_eq (tgt := 412) dc_Law_law_407 (by decide) (fun _ => ?_) (fun z => absurd e00 z)
  refine sh_iload dc_Law_law_412 rfl ?_
  refine sh_if_ne (tgt := 429) dc_Law_law_414 (by decide) (fun _ => ?_) (fun z => absurd z (by decide))
  refine sh_goto_ (tgt := 1050) dc_Law_law_429 (by decide) ?_
  refine sh_lvsub [2, 3, 4, 5, 6, 7] rfl ?_
  refine sh_widen (cs' := cs + 23) (ss' := ss + 116) (by show cs+8+0+0 ≤ cs + 23; omega) (by show ss+48+0+0 ≤ ss + 116; omega) ?_
  exact kk n2 h4 w4
theorem lc_release_t4 {A1 : Nat → Nat} {mq : Nat} {B : Nat → Nat} {sc oa od a n n1 cs ss : Nat} {K1 I I' : sh_II} {L1 D D' : sh_DD} {fs : List Value} {yo : Int64} {yd : UInt64} {h h1 : sh_Hp} {Z0 : sh_Zt} {N : Nat} {xs : Nat → Int32} {i e1 e2 e3 : Int32} {u : Int32} (f0 : h a = some (false, 0, fs)) (q1 : vp_in (i + 1) N) (v1 : xs (i + 1).toNatClampNeg = e1) (q2 : vp_in (i + 2) N) (v2 : xs (i + 2).toNatClampNeg = e2) (q3 : vp_in (i + 3) N) (v3 : xs (i + 3).toNatClampNeg = e3) (w1 : lw_W A1 mq B oa od K1 L1 I D yo yd h1) (mC : sh_M md_Hall_release [.ref a, .int e1, .int e2, .int e3] (n, h) (.inr (4, h1))) (hM : sh_mM mq B md_Mod_release [.ref mq, .int e1, .int e2, .int e3] I D (some (.int u)) I' D') (e00 : I' 0 0 = 4) (hcs : cs + 23 ≤ room_1.cells) (hss : ss + 116 ≤ room_1.slots) (kk : ∀ n' h', lw_W A1 mq B oa od K1 L1 I' D' yo yd h' → sh_V md_Law_law (1050, [(5, .int i), (4, .ref od), (3, .ref oa), (2, .ref mq), (1, .ref a), (0, .ref sc)], []) (n', h') (cs + 23) (ss + 116) (lw_G sc N xs Z0)) : sh_V md_Law_law (352, [(5, .int i), (4, .ref od), (3, .ref oa), (2, .ref mq), (1, .ref a), (0, .ref sc)], []) (n, h) cs ss (lw_G sc N xs Z0) := by
  refine sh_aload_n dc_Law_law_352 rfl rfl ?_
  refine sh_aload_n dc_Law_law_353 rfl rfl ?_
  refine sh_iload dc_Law_law_354 rfl ?_
  refine sh_iconst (v := 1) dc_Law_law_356 (by decide) ?_
  refine sh_iadd dc_Law_law_357 ?_
  refine sh_ialdS dc_Law_law_358 q1 ?_
  rw [v1]
  refine sh_aload_n dc_Law_law_359 rfl rfl ?_
  refine sh_iload dc_Law_law_360 rfl ?_
  refine sh_iconst (v := 2) dc_Law_law_362 (by decide) ?_
  refine sh_iadd dc_Law_law_363 ?_
  refine sh_ialdS dc_Law_law_364 q2 ?_
  rw [v2]
  refine sh_aload_n dc_Law_law_365 rfl rfl ?_
  refine sh_iload dc_Law_law_366 rfl ?_
  refine sh_iconst (v := 3) dc_Law_law_368 (by decide) ?_
  refine sh_iadd dc_Law_law_369 ?_
  refine sh_ialdS dc_Law_law_370 q3 ?_
  rw [v3]
  refine sh_aload_n dc_Law_law_371 rfl rfl ?_
  refine sh_callQ (sh_statW (n := 5) (As := [.ref a, .int e1, .int e2, .int e3, .ref oa]) dc_Law_law_372 wd_623 ⟨by decide, by decide⟩ (by decide) (by decide +kernel) ln_Law_88 wd_622 wd_48 rfl rfl (Nat.le_of_ble_eq_true rfl)) (lt_release_4 f0 mC) ⟨by decide, Nat.le_of_ble_eq_true rfl, by show cs + 8 ≤ room_1.cells; omega, by show ss + 48 ≤ room_1.slots; omega⟩ ?_
  intro n2 h2 eh
  have w2 : lw_W A1 mq B oa od K1 L1 I D yo yd h2 := by rw [eh]; exact w1
  refine sh_istore dc_Law_law_375 (by decide) ?_
  refine sh_aload_n dc_Law_law_377 rfl rfl ?_
  refine sh_aload_n dc_Law_law_378 rfl rfl ?_
  refine sh_iload dc_Law_law_379 rfl ?_
  refine sh_iconst (v := 1) dc_Law_law_381 (by decide) ?_
  refine sh_iadd dc_Law_law_382 ?_
  refine sh_ialdS dc_Law_law_383 q1 ?_
  rw [v1]
  refine sh_aload_n dc_Law_law_384 rfl rfl ?_
  refine sh_iload dc_Law_law_385 rfl ?_
  refine sh_iconst (v := 2) dc_Law_law_387 (by decide) ?_
  refine sh_iadd dc_Law_law_388 ?_
  refine sh_ialdS dc_Law_law_389 q2 ?_
  rw [v2]
  refine sh_aload_n dc_Law_law_390 rfl rfl ?_
  refine sh_iload dc_Law_law_391 rfl ?_
  refine sh_iconst (v := 3) dc_Law_law_393 (by decide) ?_
  refine sh_iadd dc_Law_law_394 ?_
  refine sh_ialdS dc_Law_law_395 q3 ?_
  rw [v3]
  obtain ⟨h3, x1, g1, m1⟩ := hM n2 h2 h2 w2.2.1 sh_Fr.rf
  have w3 := lw_mod w2 x1 g1
  refine sh_callR (sh_virt (As := [.int e1, .int e2, .int e3]) dc_Law_law_396 lm_Mod_release ln_Law_90 wd_1011 wd_1012 rfl rfl (Nat.le_of_ble_eq_true rfl) w2.2.1.1 rfl) m1 ⟨by decide, Nat.le_of_ble_eq_true rfl, by show cs+8 + 0 ≤ room_1.cells; omega, by show ss+48 + 0 ≤ room_1.slots; omega⟩ ?_
  refine sh_istore dc_Law_law_399 (by decide) ?_
  refine sh_aload_n dc_Law_law_401 rfl rfl ?_
  obtain ⟨h4, x2, g2, m2⟩ := (mx_Mod_thrown_1 (mq := mq) (A := B) (I := I') (D := D')) n2 h3 h3 w3.2.1 sh_Fr.rf
  have w4 := lw_mod w3 x2 g2
  refine sh_callR (sh_virt (As := []) dc_Law_law_402 lm_Mod_thrown ln_Law_74 wd_944 wd_945 rfl rfl (Nat.le_of_ble_eq_true rfl) w3.2.1.1 rfl) m2 ⟨by decide, Nat.le_of_ble_eq_true rfl, by show cs+8+0 + 0 ≤ room_1.cells; omega, by show ss+48+0 + 0 ≤ room_1.slots; omega⟩ ?_
  refine sh_iload dc_Law_law_405 rfl ?_
  refine sh_icmp_eq (tgt := 412) dc_Law_law_407 (by decide) (fun _ => ?_) (fun z => absurd e00 z)
  refine sh_iload dc_Law_law_412 rfl ?_
  refine sh_if_ne (tgt := 429) dc_Law_law_414 (by decide) (fun _ => ?_) (fun z => absurd z (by decide))
  refine sh_goto_ (tgt := 1050) dc_Law_law_429 (by decide) ?_
  refine sh_lvsub [2, 3, 4, 5, 6, 7] rfl ?_
  refine sh_widen (cs' := cs + 23) (ss' := ss + 116) (by show cs+8+0+0 ≤ cs + 23; omega) (by show ss+48+0+0 ≤ ss + 116; omega) ?_
  exact kk n2 h4 w4
theorem lc_await_r {A1 : Nat → Nat} {mq : Nat} {B : Nat → Nat} {sc oa od a n n1 cs ss : Nat} {K1 I I' : sh_II} {L1 D D' : sh_DD} {fs : List Value} {yo : Int64} {yd : UInt64} {h h1 : sh_Hp} {Z0 : sh_Zt} {N : Nat} {xs : Nat → Int32} {i e1 e2 e3 : Int32} {v : Int32} (f0 : h a = some (false, 0, fs)) (q1 : vp_in (i + 1) N) (v1 : xs (i + 1).toNatClampNeg = e1) (q2 : vp_in (i + 2) N) (v2 : xs (i + 2).toNatClampNeg = e2) (q3 : vp_in (i + 3) N) (v3 : xs (i + 3).toNatClampNeg = e3) (w1 : lw_W A1 mq B oa od K1 L1 I D yo yd h1) (mC : sh_M md_Hall_await [.ref a, .int e1, .int e2, .double (FP.dmul (FP.i2d e3) 4593671619917905920)] (n, h) (.inl (some (.int v), (n1, h1)))) (hM : sh_mM mq B md_Mod_await [.ref mq, .int e1, .int e2, .double (FP.dmul (FP.i2d e3) 4593671619917905920)] I D (some (.int v)) I' D') (e00 : I' 0 0 = 0) (hcs : cs + 23 ≤ room_1.cells) (hss : ss + 116 ≤ room_1.slots) (kk : ∀ n' h', lw_W A1 mq B oa od K1 L1 I' D' v.toInt64 yd h' → sh_V md_Law_law (1050, [(5, .int i), (4, .ref od), (3, .ref oa), (2, .ref mq), (1, .ref a), (0, .ref sc)], []) (n', h') (cs + 23) (ss + 116) (lw_G sc N xs Z0)) : sh_V md_Law_law (432, [(5, .int i), (4, .ref od), (3, .ref oa), (2, .ref mq), (1, .ref a), (0, .ref sc)], []) (n, h) cs ss (lw_G sc N xs Z0) := by
  refine sh_aload_n dc_Law_law_432 rfl rfl ?_
  refine sh_aload_n dc_Law_law_433 rfl rfl ?_
  refine sh_iload dc_Law_law_434 rfl ?_
  refine sh_iconst (v := 1) dc_Law_law_436 (by decide) ?_
  refine sh_iadd dc_Law_law_437 ?_
  refine sh_ialdS dc_Law_law_438 q1 ?_
  rw [v1]
  refine sh_aload_n dc_Law_law_439 rfl rfl ?_
  refine sh_iload dc_Law_law_440 rfl ?_
  refine sh_iconst (v := 2) dc_Law_law_442 (by decide) ?_
  refine sh_iadd dc_Law_law_443 ?_
  refine sh_ialdS dc_Law_law_444 q2 ?_
  rw [v2]
  refine sh_aload_n dc_Law_law_445 rfl rfl ?_
  refine sh_iload dc_Law_law_446 rfl ?_
  refine sh_iconst (v := 3) dc_Law_law_448 (by decide) ?_
  refine sh_iadd dc_Law_law_449 ?_
  refine sh_ialdS dc_Law_law_450 q3 ?_
  rw [v3]
  refine sh_i2d dc_Law_law_451 ?_
  refine sh_ldc2d dc_Law_law_452 wd_1078 ?_
  refine sh_dmul dc_Law_law_455 (fp_eighth e3) ?_
  refine sh_aload_n dc_Law_law_456 rfl rfl ?_
  refine sh_callQ (sh_statW (n := 5) (As := [.ref a, .int e1, .int e2, .double (FP.dmul (FP.i2d e3) 4593671619917905920), .ref oa]) dc_Law_law_457 wd_726 ⟨by decide, by decide⟩ (by decide) (by decide +kernel) ln_Law_91 wd_725 wd_48 rfl rfl (Nat.le_of_ble_eq_true rfl)) (lr_await f0 mC w1.2.2.1) ⟨by decide, Nat.le_of_ble_eq_true rfl, by show cs + 7 ≤ room_1.cells; omega, by show ss + 42 ≤ room_1.slots; omega⟩ ?_
  intro n2 h2 eh
  have w2 : lw_W A1 mq B oa od K1 L1 I D v.toInt64 yd h2 := by rw [eh]; exact lw_out w1
  refine sh_istore dc_Law_law_460 (by decide) ?_
  refine sh_aload_n dc_Law_law_462 rfl rfl ?_
  refine sh_aload_n dc_Law_law_463 rfl rfl ?_
  refine sh_iload dc_Law_law_464 rfl ?_
  refine sh_iconst (v := 1) dc_Law_law_466 (by decide) ?_
  refine sh_iadd dc_Law_law_467 ?_
  refine sh_ialdS dc_Law_law_468 q1 ?_
  rw [v1]
  refine sh_aload_n dc_Law_law_469 rfl rfl ?_
  refine sh_iload dc_Law_law_470 rfl ?_
  refine sh_iconst (v := 2) dc_Law_law_472 (by decide) ?_
  refine sh_iadd dc_Law_law_473 ?_
  refine sh_ialdS dc_Law_law_474 q2 ?_
  rw [v2]
  refine sh_aload_n dc_Law_law_475 rfl rfl ?_
  refine sh_iload dc_Law_law_476 rfl ?_
  refine sh_iconst (v := 3) dc_Law_law_478 (by decide) ?_
  refine sh_iadd dc_Law_law_479 ?_
  refine sh_ialdS dc_Law_law_480 q3 ?_
  rw [v3]
  refine sh_i2d dc_Law_law_481 ?_
  refine sh_ldc2d dc_Law_law_482 wd_1078 ?_
  refine sh_dmul dc_Law_law_485 (fp_eighth e3) ?_
  obtain ⟨h3, x1, g1, m1⟩ := hM n2 h2 h2 w2.2.1 sh_Fr.rf
  have w3 := lw_mod w2 x1 g1
  refine sh_callR (sh_virt (As := [.int e1, .int e2, .double (FP.dmul (FP.i2d e3) 4593671619917905920)]) dc_Law_law_486 lm_Mod_await ln_Law_94 wd_1031 wd_1032 rfl rfl (Nat.le_of_ble_eq_true rfl) w2.2.1.1 rfl) m1 ⟨by decide, Nat.le_of_ble_eq_true rfl, by show cs+7 + 0 ≤ room_1.cells; omega, by show ss+42 + 0 ≤ room_1.slots; omega⟩ ?_
  refine sh_istore dc_Law_law_489 (by decide) ?_
  refine sh_aload_n dc_Law_law_491 rfl rfl ?_
  obtain ⟨h4, x2, g2, m2⟩ := (mx_Mod_thrown_1 (mq := mq) (A := B) (I := I') (D := D')) n2 h3 h3 w3.2.1 sh_Fr.rf
  have w4 := lw_mod w3 x2 g2
  refine sh_callR (sh_virt (As := []) dc_Law_law_492 lm_Mod_thrown ln_Law_74 wd_944 wd_945 rfl rfl (Nat.le_of_ble_eq_true rfl) w3.2.1.1 rfl) m2 ⟨by decide, Nat.le_of_ble_eq_true rfl, by show cs+7+0 + 0 ≤ room_1.cells; omega, by show ss+42+0 + 0 ≤ room_1.slots; omega⟩ ?_
  refine sh_iload dc_Law_law_495 rfl ?_
  refine sh_icmp_eq (tgt := 502) dc_Law_law_497 (by decide) (fun _ => ?_) (fun z => absurd e00 z)
  refine sh_iload dc_Law_law_502 rfl ?_
  refine sh_if_ne (tgt := 519) dc_Law_law_504 (by decide) (fun z => absurd (by decide) z) (fun _ => ?_)
  refine sh_aload_n dc_Law_law_507 rfl rfl ?_
  refine sh_iconst (v := 0) dc_Law_law_508 (by decide) ?_
  refine sh_lald (i := 0) dc_Law_law_509 w4.2.2.1 rfl (by decide) rfl ?_
  refine sh_iload dc_Law_law_510 rfl ?_
  refine sh_i2l dc_Law_law_512 ?_
  refine sh_lcmp dc_Law_law_513 ?_
  refine sh_if_eq (tgt := 519) dc_Law_law_514 (by decide) (fun _ => ?_) (fun z => absurd (by decide) z)
  refine sh_goto_ (tgt := 1050) dc_Law_law_519 (by decide) ?_
  refine sh_lvsub [2, 3, 4, 5, 6, 7] rfl ?_
  refine sh_widen (cs' := cs + 23) (ss' := ss + 116) (by show cs+7+0+0 ≤ cs + 23; omega) (by show ss+42+0+0 ≤ ss + 116; omega) ?_
  exact kk n2 h4 w4
theorem lc_await_t1 {A1 : Nat → Nat} {mq : Nat} {B : Nat → Nat} {sc oa od a n n1 cs ss : Nat} {K1 I I' : sh_II} {L1 D D' : sh_DD} {fs : List Value} {yo : Int64} {yd : UInt64} {h h1 : sh_Hp} {Z0 : sh_Zt} {N : Nat} {xs : Nat → Int32} {i e1 e2 e3 : Int32} {u : Int32} (f0 : h a = some (false, 0, fs)) (q1 : vp_in (i + 1) N) (v1 : xs (i + 1).toNatClampNeg = e1) (q2 : vp_in (i + 2) N) (v2 : xs (i + 2).toNatClampNeg = e2) (q3 : vp_in (i + 3) N) (v3 : xs (i + 3).toNatClampNeg = e3) (w1 : lw_W A1 mq B oa od K1 L1 I D yo yd h1) (mC : sh_M md_Hall_await [.ref a, .int e1, .int e2, .double (FP.dmul (FP.i2d e3) 4593671619917905920)] (n, h) (.inr (1, h1))) (hM : sh_mM mq B md_Mod_await [.ref mq, .int e1, .int e2, .double (FP.dmul (FP.i2d e3) 4593671619917905920)] I D (some (.int u)) I' D') (e00 : I' 0 0 = 1) (hcs : cs + 23 ≤ room_1.cells) (hss : ss + 116 ≤ room_1.slots) (kk : ∀ n' h', lw_W A1 mq B oa od K1 L1 I' D' yo yd h' → sh_V md_Law_law (1050, [(5, .int i), (4, .ref od), (3, .ref oa), (2, .ref mq), (1, .ref a), (0, .ref sc)], []) (n', h') (cs + 23) (ss + 116) (lw_G sc N xs Z0)) : sh_V md_Law_law (432, [(5, .int i), (4, .ref od), (3, .ref oa), (2, .ref mq), (1, .ref a), (0, .ref sc)], []) (n, h) cs ss (lw_G sc N xs Z0) := by
  refine sh_aload_n dc_Law_law_432 rfl rfl ?_
  refine sh_aload_n dc_Law_law_433 rfl rfl ?_
  refine sh_iload dc_Law_law_434 rfl ?_
  refine sh_iconst (v := 1) dc_Law_law_436 (by decide) ?_
  refine sh_iadd dc_Law_law_437 ?_
  refine sh_ialdS dc_Law_law_438 q1 ?_
  rw [v1]
  refine sh_aload_n dc_Law_law_439 rfl rfl ?_
  refine sh_iload dc_Law_law_440 rfl ?_
  refine sh_iconst (v := 2) dc_Law_law_442 (by decide) ?_
  refine sh_iadd dc_Law_law_443 ?_
  refine sh_ialdS dc_Law_law_444 q2 ?_
  rw [v2]
  refine sh_aload_n dc_Law_law_445 rfl rfl ?_
  refine sh_iload dc_Law_law_446 rfl ?_
  refine sh_iconst (v := 3) dc_Law_law_448 (by decide) ?_
  refine sh_iadd dc_Law_law_449 ?_
  refine sh_ialdS dc_Law_law_450 q3 ?_
  rw [v3]
  refine sh_i2d dc_Law_law_451 ?_
  refine sh_ldc2d dc_Law_law_452 wd_1078 ?_
  refine sh_dmul dc_Law_law_455 (fp_eighth e3) ?_
  refine sh_aload_n dc_Law_law_456 rfl rfl ?_
  refine sh_callQ (sh_statW (n := 5) (As := [.ref a, .int e1, .int e2, .double (FP.dmul (FP.i2d e3) 4593671619917905920), .ref oa]) dc_Law_law_457 wd_726 ⟨by decide, by decide⟩ (by decide) (by decide +kernel) ln_Law_91 wd_725 wd_48 rfl rfl (Nat.le_of_ble_eq_true rfl)) (lt_await_1 f0 mC) ⟨by decide, Nat.le_of_ble_eq_true rfl, by show cs + 7 ≤ room_1.cells; omega, by show ss + 42 ≤ room_1.slots; omega⟩ ?_
  intro n2 h2 eh
  have w2 : lw_W A1 mq B oa od K1 L1 I D yo yd h2 := by rw [eh]; exact w1
  refine sh_istore dc_Law_law_460 (by decide) ?_
  refine sh_aload_n dc_Law_law_462 rfl rfl ?_
  refine sh_aload_n dc_Law_law_463 rfl rfl ?_
  refine sh_iload dc_Law_law_464 rfl ?_
  refine sh_iconst (v := 1) dc_Law_law_466 (by decide) ?_
  refine sh_iadd dc_Law_law_467 ?_
  refine sh_ialdS dc_Law_law_468 q1 ?_
  rw [v1]
  refine sh_aload_n dc_Law_law_469 rfl rfl ?_
  refine sh_iload dc_Law_law_470 rfl ?_
  refine sh_iconst (v := 2) dc_Law_law_472 (by decide) ?_
  refine sh_iadd dc_Law_law_473 ?_
  refine sh_ialdS dc_Law_law_474 q2 ?_
  rw [v2]
  refine sh_aload_n dc_Law_law_475 rfl rfl ?_
  refine sh_iload dc_Law_law_476 rfl ?_
  refine sh_iconst (v := 3) dc_Law_law_478 (by decide) ?_
  refine sh_iadd dc_Law_law_479 ?_
  refine sh_ialdS dc_Law_law_480 q3 ?_
  rw [v3]
  refine sh_i2d dc_Law_law_481 ?_
  refine sh_ldc2d dc_Law_law_482 wd_1078 ?_
  refine sh_dmul dc_Law_law_485 (fp_eighth e3) ?_
  obtain ⟨h3, x1, g1, m1⟩ := hM n2 h2 h2 w2.2.1 sh_Fr.rf
  have w3 := lw_mod w2 x1 g1
  refine sh_callR (sh_virt (As := [.int e1, .int e2, .double (FP.dmul (FP.i2d e3) 4593671619917905920)]) dc_Law_law_486 lm_Mod_await ln_Law_94 wd_1031 wd_1032 rfl rfl (Nat.le_of_ble_eq_true rfl) w2.2.1.1 rfl) m1 ⟨by decide, Nat.le_of_ble_eq_true rfl, by show cs+7 + 0 ≤ room_1.cells; omega, by show ss+42 + 0 ≤ room_1.slots; omega⟩ ?_
  refine sh_istore dc_Law_law_489 (by decide) ?_
  refine sh_aload_n dc_Law_law_491 rfl rfl ?_
  obtain ⟨h4, x2, g2, m2⟩ := (mx_Mod_thrown_1 (mq := mq) (A := B) (I := I') (D := D')) n2 h3 h3 w3.2.1 sh_Fr.rf
  have w4 := lw_mod w3 x2 g2
  refine sh_callR (sh_virt (As := []) dc_Law_law_492 lm_Mod_thrown ln_Law_74 wd_944 wd_945 rfl rfl (Nat.le_of_ble_eq_true rfl) w3.2.1.1 rfl) m2 ⟨by decide, Nat.le_of_ble_eq_true rfl, by show cs+7+0 + 0 ≤ room_1.cells; omega, by show ss+42+0 + 0 ≤ room_1.slots; omega⟩ ?_
  refine sh_iload dc_Law_law_495 rfl ?_
  refine sh_icmp_eq (tgt := 502) dc_Law_law_497 (by decide) (fun _ => ?_) (fun z => absurd e00 z)
  refine sh_iload dc_Law_law_502 rfl ?_
  refine sh_if_ne (tgt := 519) dc_Law_law_504 (by decide) (fun _ => ?_) (fun z => absurd z (by decide))
  refine sh_goto_ (tgt := 1050) dc_Law_law_519 (by decide) ?_
  refine sh_lvsub [2, 3, 4, 5, 6, 7] rfl ?_
  refine sh_widen (cs' := cs + 23) (ss' := ss + 116) (by show cs+7+0+0 ≤ cs + 23; omega) (by show ss+42+0+0 ≤ ss + 116; omega) ?_
  exact kk n2 h4 w4
theorem lc_await_t2 {A1 : Nat → Nat} {mq : Nat} {B : Nat → Nat} {sc oa od a n n1 cs ss : Nat} {K1 I I' : sh_II} {L1 D D' : sh_DD} {fs : List Value} {yo : Int64} {yd : UInt64} {h h1 : sh_Hp} {Z0 : sh_Zt} {N : Nat} {xs : Nat → Int32} {i e1 e2 e3 : Int32} {u : Int32} (f0 : h a = some (false, 0, fs)) (q1 : vp_in (i + 1) N) (v1 : xs (i + 1).toNatClampNeg = e1) (q2 : vp_in (i + 2) N) (v2 : xs (i + 2).toNatClampNeg = e2) (q3 : vp_in (i + 3) N) (v3 : xs (i + 3).toNatClampNeg = e3) (w1 : lw_W A1 mq B oa od K1 L1 I D yo yd h1) (mC : sh_M md_Hall_await [.ref a, .int e1, .int e2, .double (FP.dmul (FP.i2d e3) 4593671619917905920)] (n, h) (.inr (2, h1))) (hM : sh_mM mq B md_Mod_await [.ref mq, .int e1, .int e2, .double (FP.dmul (FP.i2d e3) 4593671619917905920)] I D (some (.int u)) I' D') (e00 : I' 0 0 = 2) (hcs : cs + 23 ≤ room_1.cells) (hss : ss + 116 ≤ room_1.slots) (kk : ∀ n' h', lw_W A1 mq B oa od K1 L1 I' D' yo yd h' → sh_V md_Law_law (1050, [(5, .int i), (4, .ref od), (3, .ref oa), (2, .ref mq), (1, .ref a), (0, .ref sc)], []) (n', h') (cs + 23) (ss + 116) (lw_G sc N xs Z0)) : sh_V md_Law_law (432, [(5, .int i), (4, .ref od), (3, .ref oa), (2, .ref mq), (1, .ref a), (0, .ref sc)], []) (n, h) cs ss (lw_G sc N xs Z0) := by
  refine sh_aload_n dc_Law_law_432 rfl rfl ?_
  refine sh_aload_n dc_Law_law_433 rfl rfl ?_
  refine sh_iload dc_Law_law_434 rfl ?_
  refine sh_iconst (v := 1) dc_Law_law_436 (by decide) ?_
  refine sh_iadd dc_Law_law_437 ?_
  refine sh_ialdS dc_Law_law_438 q1 ?_
  rw [v1]
  refine sh_aload_n dc_Law_law_439 rfl rfl ?_
  refine sh_iload dc_Law_law_440 rfl ?_
  refine sh_iconst (v := 2) dc_Law_law_442 (by decide) ?_
  refine sh_iadd dc_Law_law_443 ?_
  refine sh_ialdS dc_Law_law_444 q2 ?_
  rw [v2]
  refine sh_aload_n dc_Law_law_445 rfl rfl ?_
  refine sh_iload dc_Law_law_446 rfl ?_
  refine sh_iconst (v := 3) dc_Law_law_448 (by decide) ?_
  refine sh_iadd dc_Law_law_449 ?_
  refine sh_ialdS dc_Law_law_450 q3 ?_
  rw [v3]
  refine sh_i2d dc_Law_law_451 ?_
  refine sh_ldc2d dc_Law_law_452 wd_1078 ?_
  refine sh_dmul dc_Law_law_455 (fp_eighth e3) ?_
  refine sh_aload_n dc_Law_law_456 rfl rfl ?_
  refine sh_callQ (sh_statW (n := 5) (As := [.ref a, .int e1, .int e2, .double (FP.dmul (FP.i2d e3) 4593671619917905920), .ref oa]) dc_Law_law_457 wd_726 ⟨by decide, by decide⟩ (by decide) (by decide +kernel) ln_Law_91 wd_725 wd_48 rfl rfl (Nat.le_of_ble_eq_true rfl)) (lt_await_2 f0 mC) ⟨by decide, Nat.le_of_ble_eq_true rfl, by show cs + 7 ≤ room_1.cells; omega, by show ss + 42 ≤ room_1.slots; omega⟩ ?_
  intro n2 h2 eh
  have w2 : lw_W A1 mq B oa od K1 L1 I D yo yd h2 := by rw [eh]; exact w1
  refine sh_istore dc_Law_law_460 (by decide) ?_
  refine sh_aload_n dc_Law_law_462 rfl rfl ?_
  refine sh_aload_n dc_Law_law_463 rfl rfl ?_
  refine sh_iload dc_Law_law_464 rfl ?_
  refine sh_iconst (v := 1) dc_Law_law_466 (by decide) ?_
  refine sh_iadd dc_Law_law_467 ?_
  refine sh_ialdS dc_Law_law_468 q1 ?_
  rw [v1]
  refine sh_aload_n dc_Law_law_469 rfl rfl ?_
  refine sh_iload dc_Law_law_470 rfl ?_
  refine sh_iconst (v := 2) dc_Law_law_472 (by decide) ?_
  refine sh_iadd dc_Law_law_473 ?_
  refine sh_ialdS dc_Law_law_474 q2 ?_
  rw [v2]
  refine sh_aload_n dc_Law_law_475 rfl rfl ?_
  refine sh_iload dc_Law_law_476 rfl ?_
  refine sh_iconst (v := 3) dc_Law_law_478 (by decide) ?_
  refine sh_iadd dc_Law_law_479 ?_
  refine sh_ialdS dc_Law_law_480 q3 ?_
  rw [v3]
  refine sh_i2d dc_Law_law_481 ?_
  refine sh_ldc2d dc_Law_law_482 wd_1078 ?_
  refine sh_dmul dc_Law_law_485 (fp_eighth e3) ?_
  obtain ⟨h3, x1, g1, m1⟩ := hM n2 h2 h2 w2.2.1 sh_Fr.rf
  have w3 := lw_mod w2 x1 g1
  refine sh_callR (sh_virt (As := [.int e1, .int e2, .double (FP.dmul (FP.i2d e3) 4593671619917905920)]) dc_Law_law_486 lm_Mod_await ln_Law_94 wd_1031 wd_1032 rfl rfl (Nat.le_of_ble_eq_true rfl) w2.2.1.1 rfl) m1 ⟨by decide, Nat.le_of_ble_eq_true rfl, by show cs+7 + 0 ≤ room_1.cells; omega, by show ss+42 + 0 ≤ room_1.slots; omega⟩ ?_
  refine sh_istore dc_Law_law_489 (by decide) ?_
  refine sh_aload_n dc_Law_law_491 rfl rfl ?_
  obtain ⟨h4, x2, g2, m2⟩ := (mx_Mod_thrown_1 (mq := mq) (A := B) (I := I') (D := D')) n2 h3 h3 w3.2.1 sh_Fr.rf
  have w4 := lw_mod w3 x2 g2
  refine sh_callR (sh_virt (As := []) dc_Law_law_492 lm_Mod_thrown ln_Law_74 wd_944 wd_945 rfl rfl (Nat.le_of_ble_eq_true rfl) w3.2.1.1 rfl) m2 ⟨by decide, Nat.le_of_ble_eq_true rfl, by show cs+7+0 + 0 ≤ room_1.cells; omega, by show ss+42+0 + 0 ≤ room_1.slots; omega⟩ ?_
  refine sh_iload dc_Law_law_495 rfl ?_
  refine sh_icmp_eq (tgt := 502) dc_Law_law_497 (by decide) (fun _ => ?_) (fun z => absurd e00 z)
  refine sh_iload dc_Law_law_502 rfl ?_
  refine sh_if_ne (tgt := 519) dc_Law_law_504 (by decide) (fun _ => ?_) (fun z => absurd z (by decide))
  refine sh_goto_ (tgt := 1050) dc_Law_law_519 (by decide) ?_
  refine sh_lvsub [2, 3, 4, 5, 6, 7] rfl ?_
  refine sh_widen (cs' := cs + 23) (ss' := ss + 116) (by show cs+7+0+0 ≤ cs + 23; omega) (by show ss+42+0+0 ≤ ss + 116; omega) ?_
  exact kk n2 h4 w4
theorem lc_await_t3 {A1 : Nat → Nat} {mq : Nat} {B : Nat → Nat} {sc oa od a n n1 cs ss : Nat} {K1 I I' : sh_II} {L1 D D' : sh_DD} {fs : List Value} {yo : Int64} {yd : UInt64} {h h1 : sh_Hp} {Z0 : sh_Zt} {N : Nat} {xs : Nat → Int32} {i e1 e2 e3 : Int32} {u : Int32} (f0 : h a = some (false, 0, fs)) (q1 : vp_in (i + 1) N) (v1 : xs (i + 1).toNatClampNeg = e1) (q2 : vp_in (i + 2) N) (v2 : xs (i + 2).toNatClampNeg = e2) (q3 : vp_in (i + 3) N) (v3 : xs (i + 3).toNatClampNeg = e3) (w1 : lw_W A1 mq B oa od K1 L1 I D yo yd h1) (mC : sh_M md_Hall_await [.ref a, .int e1, .int e2, .double (FP.dmul (FP.i2d e3) 4593671619917905920)] (n, h) (.inr (3, h1))) (hM : sh_mM mq B md_Mod_await [.ref mq, .int e1, .int e2, .double (FP.dmul (FP.i2d e3) 4593671619917905920)] I D (some (.int u)) I' D') (e00 : I' 0 0 = 3) (hcs : cs + 23 ≤ room_1.cells) (hss : ss + 116 ≤ room_1.slots) (kk : ∀ n' h', lw_W A1 mq B oa od K1 L1 I' D' yo yd h' → sh_V md_Law_law (1050, [(5, .int i), (4, .ref od), (3, .ref oa), (2, .ref mq), (1, .ref a), (0, .ref sc)], []) (n', h') (cs + 23) (ss + 116) (lw_G sc N xs Z0)) : sh_V md_Law_law (432, [(5, .int i), (4, .ref od), (3, .ref oa), (2, .ref mq), (1, .ref a), (0, .ref sc)], []) (n, h) cs ss (lw_G sc N xs Z0) := by
  refine sh_aload_n dc_Law_law_432 rfl rfl ?_
  refine sh_aload_n dc_Law_law_433 rfl rfl ?_
  refine sh_iload dc_Law_law_434 rfl ?_
  refine sh_iconst (v := 1) dc_Law_law_436 (by decide) ?_
  refine sh_iadd dc_Law_law_437 ?_
  refine sh_ialdS dc_Law_law_438 q1 ?_
  rw [v1]
  refine sh_aload_n dc_Law_law_439 rfl rfl ?_
  refine sh_iload dc_Law_law_440 rfl ?_
  refine sh_iconst (v := 2) dc_Law_law_442 (by decide) ?_
  refine sh_iadd dc_Law_law_443 ?_
  refine sh_ialdS dc_Law_law_444 q2 ?_
  rw [v2]
  refine sh_aload_n dc_Law_law_445 rfl rfl ?_
  refine sh_iload dc_Law_law_446 rfl ?_
  refine sh_iconst (v := 3) dc_Law_law_448 (by decide) ?_
  refine sh_iadd dc_Law_law_449 ?_
  refine sh_ialdS dc_Law_law_450 q3 ?_
  rw [v3]
  refine sh_i2d dc_Law_law_451 ?_
  refine sh_ldc2d dc_Law_law_452 wd_1078 ?_
  refine sh_dmul dc_Law_law_455 (fp_eighth e3) ?_
  refine sh_aload_n dc_Law_law_456 rfl rfl ?_
  refine sh_callQ (sh_statW (n := 5) (As := [.ref a, .int e1, .int e2, .double (FP.dmul (FP.i2d e3) 4593671619917905920), .ref oa]) dc_Law_law_457 wd_726 ⟨by decide, by decide⟩ (by decide) (by decide +kernel) ln_Law_91 wd_725 wd_48 rfl rfl (Nat.le_of_ble_eq_true rfl)) (lt_await_3 f0 mC) ⟨by decide, Nat.le_of_ble_eq_true rfl, by show cs + 7 ≤ room_1.cells; omega, by show ss + 42 ≤ room_1.slots; omega⟩ ?_
  intro n2 h2 eh
  have w2 : lw_W A1 mq B oa od K1 L1 I D yo yd h2 := by rw [eh]; exact w1
  refine sh_istore dc_Law_law_460 (by decide) ?_
  refine sh_aload_n dc_Law_law_462 rfl rfl ?_
  refine sh_aload_n dc_Law_law_463 rfl rfl ?_
  refine sh_iload dc_Law_law_464 rfl ?_
  refine sh_iconst (v := 1) dc_Law_law_466 (by decide) ?_
  refine sh_iadd dc_Law_law_467 ?_
  refine sh_ialdS dc_Law_law_468 q1 ?_
  rw [v1]
  refine sh_aload_n dc_Law_law_469 rfl rfl ?_
  refine sh_iload dc_Law_law_470 rfl ?_
  refine sh_iconst (v := 2) dc_Law_law_472 (by decide) ?_
  refine sh_iadd dc_Law_law_473 ?_
  refine sh_ialdS dc_Law_law_474 q2 ?_
  rw [v2]
  refine sh_aload_n dc_Law_law_475 rfl rfl ?_
  refine sh_iload dc_Law_law_476 rfl ?_
  refine sh_iconst (v := 3) dc_Law_law_478 (by decide) ?_
  refine sh_iadd dc_Law_law_479 ?_
  refine sh_ialdS dc_Law_law_480 q3 ?_
  rw [v3]
  refine sh_i2d dc_Law_law_481 ?_
  refine sh_ldc2d dc_Law_law_482 wd_1078 ?_
  refine sh_dmul dc_Law_law_485 (fp_eighth e3) ?_
  obtain ⟨h3, x1, g1, m1⟩ := hM n2 h2 h2 w2.2.1 sh_Fr.rf
  have w3 := lw_mod w2 x1 g1
  refine sh_callR (sh_virt (As := [.int e1, .int e2, .double (FP.dmul (FP.i2d e3) 4593671619917905920)]) dc_Law_law_486 lm_Mod_await ln_Law_94 wd_1031 wd_1032 rfl rfl (Nat.le_of_ble_eq_true rfl) w2.2.1.1 rfl) m1 ⟨by decide, Nat.le_of_ble_eq_true rfl, by show cs+7 + 0 ≤ room_1.cells; omega, by show ss+42 + 0 ≤ room_1.slots; omega⟩ ?_
  refine sh_istore dc_Law_law_489 (by decide) ?_
  refine sh_aload_n dc_Law_law_491 rfl rfl ?_
  obtain ⟨h4, x2, g2, m2⟩ := (mx_Mod_thrown_1 (mq := mq) (A := B) (I := I') (D := D')) n2 h3 h3 w3.2.1 sh_Fr.rf
  have w4 := lw_mod w3 x2 g2
  refine sh_callR (sh_virt (As := []) dc_Law_law_492 lm_Mod_thrown ln_Law_74 wd_944 wd_945 rfl rfl (Nat.le_of_ble_eq_true rfl) w3.2.1.1 rfl) m2 ⟨by decide, Nat.le_of_ble_eq_true rfl, by show cs+7+0 + 0 ≤ room_1.cells; omega, by show ss+42+0 + 0 ≤ room_1.slots; omega⟩ ?_
  refine sh_iload dc_Law_law_495 rfl ?_
  refine sh_icmp_eq (tgt := 502) dc_Law_law_497 (by decide) (fun _ => ?_) (fun z => absurd e00 z)
  refine sh_iload dc_Law_law_502 rfl ?_
  refine sh_if_ne (tgt := 519) dc_Law_law_504 (by decide) (fun _ => ?_) (fun z => absurd z (by decide))
  refine sh_goto_ (tgt := 1050) dc_Law_law_519 (by decide) ?_
  refine sh_lvsub [2, 3, 4, 5, 6, 7] rfl ?_
  refine sh_widen (cs' := cs + 23) (ss' := ss + 116) (by show cs+7+0+0 ≤ cs + 23; omega) (by show ss+42+0+0 ≤ ss + 116; omega) ?_
  exact kk n2 h4 w4
theorem lc_await_t4 {A1 : Nat → Nat} {mq : Nat} {B : Nat → Nat} {sc oa od a n n1 cs ss : Nat} {K1 I I' : sh_II} {L1 D D' : sh_DD} {fs : List Value} {yo : Int64} {yd : UInt64} {h h1 : sh_Hp} {Z0 : sh_Zt} {N : Nat} {xs : Nat → Int32} {i e1 e2 e3 : Int32} {u : Int32} (f0 : h a = some (false, 0, fs)) (q1 : vp_in (i + 1) N) (v1 : xs (i + 1).toNatClampNeg = e1) (q2 : vp_in (i + 2) N) (v2 : xs (i + 2).toNatClampNeg = e2) (q3 : vp_in (i + 3) N) (v3 : xs (i + 3).toNatClampNeg = e3) (w1 : lw_W A1 mq B oa od K1 L1 I D yo yd h1) (mC : sh_M md_Hall_await [.ref a, .int e1, .int e2, .double (FP.dmul (FP.i2d e3) 4593671619917905920)] (n, h) (.inr (4, h1))) (hM : sh_mM mq B md_Mod_await [.ref mq, .int e1, .int e2, .double (FP.dmul (FP.i2d e3) 4593671619917905920)] I D (some (.int u)) I' D') (e00 : I' 0 0 = 4) (hcs : cs + 23 ≤ room_1.cells) (hss : ss + 116 ≤ room_1.slots) (kk : ∀ n' h', lw_W A1 mq B oa od K1 L1 I' D' yo yd h' → sh_V md_Law_law (1050, [(5, .int i), (4, .ref od), (3, .ref oa), (2, .ref mq), (1, .ref a), (0, .ref sc)], []) (n', h') (cs + 23) (ss + 116) (lw_G sc N xs Z0)) : sh_V md_Law_law (432, [(5, .int i), (4, .ref od), (3, .ref oa), (2, .ref mq), (1, .ref a), (0, .ref sc)], []) (n, h) cs ss (lw_G sc N xs Z0) := by
  refine sh_aload_n dc_Law_law_432 rfl rfl ?_
  refine sh_aload_n dc_Law_law_433 rfl rfl ?_
  refine sh_iload dc_Law_law_434 rfl ?_
  refine sh_iconst (v := 1) dc_Law_law_436 (by decide) ?_
  refine sh_iadd dc_Law_law_437 ?_
  refine sh_ialdS dc_Law_law_438 q1 ?_
  rw [v1]
  refine sh_aload_n dc_Law_law_439 rfl rfl ?_
  refine sh_iload dc_Law_law_440 rfl ?_
  refine sh_iconst (v := 2) dc_Law_law_442 (by decide) ?_
  refine sh_iadd dc_Law_law_443 ?_
  refine sh_ialdS dc_Law_law_444 q2 ?_
  rw [v2]
  refine sh_aload_n dc_Law_law_445 rfl rfl ?_
  refine sh_iload dc_Law_law_446 rfl ?_
  refine sh_iconst (v := 3) dc_Law_law_448 (by decide) ?_
  refine sh_iadd dc_Law_law_449 ?_
  refine sh_ialdS dc_Law_law_450 q3 ?_
  rw [v3]
  refine sh_i2d dc_Law_law_451 ?_
  refine sh_ldc2d dc_Law_law_452 wd_1078 ?_
  refine sh_dmul dc_Law_law_455 (fp_eighth e3) ?_
  refine sh_aload_n dc_Law_law_456 rfl rfl ?_
  refine sh_callQ (sh_statW (n := 5) (As := [.ref a, .int e1, .int e2, .double (FP.dmul (FP.i2d e3) 4593671619917905920), .ref oa]) dc_Law_law_457 wd_726 ⟨by decide, by decide⟩ (by decide) (by decide +kernel) ln_Law_91 wd_725 wd_48 rfl rfl (Nat.le_of_ble_eq_true rfl)) (lt_await_4 f0 mC) ⟨by decide, Nat.le_of_ble_eq_true rfl, by show cs + 7 ≤ room_1.cells; omega, by show ss + 42 ≤ room_1.slots; omega⟩ ?_
  intro n2 h2 eh
  have w2 : lw_W A1 mq B oa od K1 L1 I D yo yd h2 := by rw [eh]; exact w1
  refine sh_istore dc_Law_law_460 (by decide) ?_
  refine sh_aload_n dc_Law_law_462 rfl rfl ?_
  refine sh_aload_n dc_Law_law_463 rfl rfl ?_
  refine sh_iload dc_Law_law_464 rfl ?_
  refine sh_iconst (v := 1) dc_Law_law_466 (by decide) ?_
  refine sh_iadd dc_Law_law_467 ?_
  refine sh_ialdS dc_Law_law_468 q1 ?_
  rw [v1]
  refine sh_aload_n dc_Law_law_469 rfl rfl ?_
  refine sh_iload dc_Law_law_470 rfl ?_
  refine sh_iconst (v := 2) dc_Law_law_472 (by decide) ?_
  refine sh_iadd dc_Law_law_473 ?_
  refine sh_ialdS dc_Law_law_474 q2 ?_
  rw [v2]
  refine sh_aload_n dc_Law_law_475 rfl rfl ?_
  refine sh_iload dc_Law_law_476 rfl ?_
  refine sh_iconst (v := 3) dc_Law_law_478 (by decide) ?_
  refine sh_iadd dc_Law_law_479 ?_
  refine sh_ialdS dc_Law_law_480 q3 ?_
  rw [v3]
  refine sh_i2d dc_Law_law_481 ?_
  refine sh_ldc2d dc_Law_law_482 wd_1078 ?_
  refine sh_dmul dc_Law_law_485 (fp_eighth e3) ?_
  obtain ⟨h3, x1, g1, m1⟩ := hM n2 h2 h2 w2.2.1 sh_Fr.rf
  have w3 := lw_mod w2 x1 g1
  refine sh_callR (sh_virt (As := [.int e1, .int e2, .double (FP.dmul (FP.i2d e3) 4593671619917905920)]) dc_Law_law_486 lm_Mod_await ln_Law_94 wd_1031 wd_1032 rfl rfl (Nat.le_of_ble_eq_true rfl) w2.2.1.1 rfl) m1 ⟨by decide, Nat.le_of_ble_eq_true rfl, by show cs+7 + 0 ≤ room_1.cells; omega, by show ss+42 + 0 ≤ room_1.slots; omega⟩ ?_
  refine sh_istore dc_Law_law_489 (by decide) ?_
  refine sh_aload_n dc_Law_law_491 rfl rfl ?_
  obtain ⟨h4, x2, g2, m2⟩ := (mx_Mod_thrown_1 (mq := mq) (A := B) (I := I') (D := D')) n2 h3 h3 w3.2.1 sh_Fr.rf
  have w4 := lw_mod w3 x2 g2
  refine sh_callR (sh_virt (As := []) dc_Law_law_492 lm_Mod_thrown ln_Law_74 wd_944 wd_945 rfl rfl (Nat.le_of_ble_eq_true rfl) w3.2.1.1 rfl) m2 ⟨by decide, Nat.le_of_ble_eq_true rfl, by show cs+7+0 + 0 ≤ room_1.cells; omega, by show ss+42+0 + 0 ≤ room_1.slots; omega⟩ ?_
  refine sh_iload dc_Law_law_495 rfl ?_
  refine sh_icmp_eq (tgt := 502) dc_Law_law_497 (by decide) (fun _ => ?_) (fun z => absurd e00 z)
  refine sh_iload dc_Law_law_502 rfl ?_
  refine sh_if_ne (tgt := 519) dc_Law_law_504 (by decide) (fun _ => ?_) (fun z => absurd z (by decide))
  refine sh_goto_ (tgt := 1050) dc_Law_law_519 (by decide) ?_
  refine sh_lvsub [2, 3, 4, 5, 6, 7] rfl ?_
  refine sh_widen (cs' := cs + 23) (ss' := ss + 116) (by show cs+7+0+0 ≤ cs + 23; omega) (by show ss+42+0+0 ≤ ss + 116; omega) ?_
  exact kk n2 h4 w4
theorem lc_signal_r0 {A1 : Nat → Nat} {mq : Nat} {B : Nat → Nat} {sc oa od a n n1 cs ss : Nat} {K1 I I' : sh_II} {L1 D D' : sh_DD} {fs : List Value} {yo : Int64} {yd : UInt64} {h h1 : sh_Hp} {Z0 : sh_Zt} {N : Nat} {xs : Nat → Int32} {i e1 e2 e3 : Int32} {v : Int32} (f0 : h a = some (false, 0, fs)) (q1 : vp_in (i + 1) N) (v1 : xs (i + 1).toNatClampNeg = e1) (q2 : vp_in (i + 2) N) (v2 : xs (i + 2).toNatClampNeg = e2) (q3 : vp_in (i + 3) N) (v3 : xs (i + 3).toNatClampNeg = e3) (h3 : e3 = 0) (w1 : lw_W A1 mq B oa od K1 L1 I D yo yd h1) (mC : sh_M md_Hall_signal [.ref a, .int e1, .int e2, .int 0] (n, h) (.inl (some (.int v), (n1, h1)))) (hM : sh_mM mq B md_Mod_signal [.ref mq, .int e1, .int e2, .int 0] I D (some (.int v)) I' D') (e00 : I' 0 0 = 0) (hcs : cs + 23 ≤ room_1.cells) (hss : ss + 116 ≤ room_1.slots) (kk : ∀ n' h', lw_W A1 mq B oa od K1 L1 I' D' v.toInt64 yd h' → sh_V md_Law_law (1050, [(5, .int i), (4, .ref od), (3, .ref oa), (2, .ref mq), (1, .ref a), (0, .ref sc)], []) (n', h') (cs + 23) (ss + 116) (lw_G sc N xs Z0)) : sh_V md_Law_law (522, [(5, .int i), (4, .ref od), (3, .ref oa), (2, .ref mq), (1, .ref a), (0, .ref sc)], []) (n, h) cs ss (lw_G sc N xs Z0) := by
  refine sh_aload_n dc_Law_law_522 rfl rfl ?_
  refine sh_aload_n dc_Law_law_523 rfl rfl ?_
  refine sh_iload dc_Law_law_524 rfl ?_
  refine sh_iconst (v := 1) dc_Law_law_526 (by decide) ?_
  refine sh_iadd dc_Law_law_527 ?_
  refine sh_ialdS dc_Law_law_528 q1 ?_
  rw [v1]
  refine sh_aload_n dc_Law_law_529 rfl rfl ?_
  refine sh_iload dc_Law_law_530 rfl ?_
  refine sh_iconst (v := 2) dc_Law_law_532 (by decide) ?_
  refine sh_iadd dc_Law_law_533 ?_
  refine sh_ialdS dc_Law_law_534 q2 ?_
  rw [v2]
  refine sh_aload_n dc_Law_law_535 rfl rfl ?_
  refine sh_iload dc_Law_law_536 rfl ?_
  refine sh_iconst (v := 3) dc_Law_law_538 (by decide) ?_
  refine sh_iadd dc_Law_law_539 ?_
  refine sh_ialdS dc_Law_law_540 q3 ?_
  rw [v3]
  refine sh_if_eq (tgt := 548) dc_Law_law_541 (by decide) (fun _ => ?_) (fun z => absurd h3 z)
  refine sh_iconst (v := 0) dc_Law_law_548 (by decide) ?_
  refine sh_aload_n dc_Law_law_549 rfl rfl ?_
  refine sh_callQ (sh_statW (n := 5) (As := [.ref a, .int e1, .int e2, .int 0, .ref oa]) dc_Law_law_550 wd_754 ⟨by decide, by decide⟩ (by decide) (by decide +kernel) ln_Law_95 wd_753 wd_48 rfl rfl (Nat.le_of_ble_eq_true rfl)) (lr_signal f0 mC w1.2.2.1) ⟨by decide, Nat.le_of_ble_eq_true rfl, by show cs + 6 ≤ room_1.cells; omega, by show ss + 36 ≤ room_1.slots; omega⟩ ?_
  intro n2 h2 eh
  have w2 : lw_W A1 mq B oa od K1 L1 I D v.toInt64 yd h2 := by rw [eh]; exact lw_out w1
  refine sh_istore dc_Law_law_553 (by decide) ?_
  refine sh_aload_n dc_Law_law_555 rfl rfl ?_
  refine sh_aload_n dc_Law_law_556 rfl rfl ?_
  refine sh_iload dc_Law_law_557 rfl ?_
  refine sh_iconst (v := 1) dc_Law_law_559 (by decide) ?_
  refine sh_iadd dc_Law_law_560 ?_
  refine sh_ialdS dc_Law_law_561 q1 ?_
  rw [v1]
  refine sh_aload_n dc_Law_law_562 rfl rfl ?_
  refine sh_iload dc_Law_law_563 rfl ?_
  refine sh_iconst (v := 2) dc_Law_law_565 (by decide) ?_
  refine sh_iadd dc_Law_law_566 ?_
  refine sh_ialdS dc_Law_law_567 q2 ?_
  rw [v2]
  refine sh_aload_n dc_Law_law_568 rfl rfl ?_
  refine sh_iload dc_Law_law_569 rfl ?_
  refine sh_iconst (v := 3) dc_Law_law_571 (by decide) ?_
  refine sh_iadd dc_Law_law_572 ?_
  refine sh_ialdS dc_Law_law_573 q3 ?_
  rw [v3]
  refine sh_if_eq (tgt := 581) dc_Law_law_574 (by decide) (fun _ => ?_) (fun z => absurd h3 z)
  refine sh_iconst (v := 0) dc_Law_law_581 (by decide) ?_
  obtain ⟨h3, x1, g1, m1⟩ := hM n2 h2 h2 w2.2.1 sh_Fr.rf
  have w3 := lw_mod w2 x1 g1
  refine sh_callR (sh_virt (As := [.int e1, .int e2, .int 0]) dc_Law_law_582 lm_Mod_signal ln_Law_98 wd_1043 wd_1044 rfl rfl (Nat.le_of_ble_eq_true rfl) w2.2.1.1 rfl) m1 ⟨by decide, Nat.le_of_ble_eq_true rfl, by show cs+6 + 0 ≤ room_1.cells; omega, by show ss+36 + 0 ≤ room_1.slots; omega⟩ ?_
  refine sh_istore dc_Law_law_585 (by decide) ?_
  refine sh_aload_n dc_Law_law_587 rfl rfl ?_
  obtain ⟨h4, x2, g2, m2⟩ := (mx_Mod_thrown_1 (mq := mq) (A := B) (I := I') (D := D')) n2 h3 h3 w3.2.1 sh_Fr.rf
  have w4 := lw_mod w3 x2 g2
  refine sh_callR (sh_virt (As := []) dc_Law_law_588 lm_Mod_thrown ln_Law_74 wd_944 wd_945 rfl rfl (Nat.le_of_ble_eq_true rfl) w3.2.1.1 rfl) m2 ⟨by decide, Nat.le_of_ble_eq_true rfl, by show cs+6+0 + 0 ≤ room_1.cells; omega, by show ss+36+0 + 0 ≤ room_1.slots; omega⟩ ?_
  refine sh_iload dc_Law_law_591 rfl ?_
  refine sh_icmp_eq (tgt := 598) dc_Law_law_593 (by decide) (fun _ => ?_) (fun z => absurd e00 z)
  refine sh_iload dc_Law_law_598 rfl ?_
  refine sh_if_ne (tgt := 615) dc_Law_law_600 (by decide) (fun z => absurd (by decide) z) (fun _ => ?_)
  refine sh_aload_n dc_Law_law_603 rfl rfl ?_
  refine sh_iconst (v := 0) dc_Law_law_604 (by decide) ?_
  refine sh_lald (i := 0) dc_Law_law_605 w4.2.2.1 rfl (by decide) rfl ?_
  refine sh_iload dc_Law_law_606 rfl ?_
  refine sh_i2l dc_Law_law_608 ?_
  refine sh_lcmp dc_Law_law_609 ?_
  refine sh_if_eq (tgt := 615) dc_Law_law_610 (by decide) (fun _ => ?_) (fun z => absurd (by decide) z)
  refine sh_goto_ (tgt := 1050) dc_Law_law_615 (by decide) ?_
  refine sh_lvsub [2, 3, 4, 5, 6, 7] rfl ?_
  refine sh_widen (cs' := cs + 23) (ss' := ss + 116) (by show cs+6+0+0 ≤ cs + 23; omega) (by show ss+36+0+0 ≤ ss + 116; omega) ?_
  exact kk n2 h4 w4
theorem lc_signal_t01 {A1 : Nat → Nat} {mq : Nat} {B : Nat → Nat} {sc oa od a n n1 cs ss : Nat} {K1 I I' : sh_II} {L1 D D' : sh_DD} {fs : List Value} {yo : Int64} {yd : UInt64} {h h1 : sh_Hp} {Z0 : sh_Zt} {N : Nat} {xs : Nat → Int32} {i e1 e2 e3 : Int32} {u : Int32} (f0 : h a = some (false, 0, fs)) (q1 : vp_in (i + 1) N) (v1 : xs (i + 1).toNatClampNeg = e1) (q2 : vp_in (i + 2) N) (v2 : xs (i + 2).toNatClampNeg = e2) (q3 : vp_in (i + 3) N) (v3 : xs (i + 3).toNatClampNeg = e3) (h3 : e3 = 0) (w1 : lw_W A1 mq B oa od K1 L1 I D yo yd h1) (mC : sh_M md_Hall_signal [.ref a, .int e1, .int e2, .int 0] (n, h) (.inr (1, h1))) (hM : sh_mM mq B md_Mod_signal [.ref mq, .int e1, .int e2, .int 0] I D (some (.int u)) I' D') (e00 : I' 0 0 = 1) (hcs : cs + 23 ≤ room_1.cells) (hss : ss + 116 ≤ room_1.slots) (kk : ∀ n' h', lw_W A1 mq B oa od K1 L1 I' D' yo yd h' → sh_V md_Law_law (1050, [(5, .int i), (4, .ref od), (3, .ref oa), (2, .ref mq), (1, .ref a), (0, .ref sc)], []) (n', h') (cs + 23) (ss + 116) (lw_G sc N xs Z0)) : sh_V md_Law_law (522, [(5, .int i), (4, .ref od), (3, .ref oa), (2, .ref mq), (1, .ref a), (0, .ref sc)], []) (n, h) cs ss (lw_G sc N xs Z0) := by
  refine sh_aload_n dc_Law_law_522 rfl rfl ?_
  refine sh_aload_n dc_Law_law_523 rfl rfl ?_
  refine sh_iload dc_Law_law_524 rfl ?_
  refine sh_iconst (v := 1) dc_Law_law_526 (by decide) ?_
  refine sh_iadd dc_Law_law_527 ?_
  refine sh_ialdS dc_Law_law_528 q1 ?_
  rw [v1]
  refine sh_aload_n dc_Law_law_529 rfl rfl ?_
  refine sh_iload dc_Law_law_530 rfl ?_
  refine sh_iconst (v := 2) dc_Law_law_532 (by decide) ?_
  refine sh_iadd dc_Law_law_533 ?_
  refine sh_ialdS dc_Law_law_534 q2 ?_
  rw [v2]
  refine sh_aload_n dc_Law_law_535 rfl rfl ?_
  refine sh_iload dc_Law_law_536 rfl ?_
  refine sh_iconst (v := 3) dc_Law_law_538 (by decide) ?_
  refine sh_iadd dc_Law_law_539 ?_
  refine sh_ialdS dc_Law_law_540 q3 ?_
  rw [v3]
  refine sh_if_eq (tgt := 548) dc_Law_law_541 (by decide) (fun _ => ?_) (fun z => absurd h3 z)
  refine sh_iconst (v := 0) dc_Law_law_548 (by decide) ?_
  refine sh_aload_n dc_Law_law_549 rfl rfl ?_
  refine sh_callQ (sh_statW (n := 5) (As := [.ref a, .int e1, .int e2, .int 0, .ref oa]) dc_Law_law_550 wd_754 ⟨by decide, by decide⟩ (by decide) (by decide +kernel) ln_Law_95 wd_753 wd_48 rfl rfl (Nat.le_of_ble_eq_true rfl)) (lt_signal_1 f0 mC) ⟨by decide, Nat.le_of_ble_eq_true rfl, by show cs + 6 ≤ room_1.cells; omega, by show ss + 36 ≤ room_1.slots; omega⟩ ?_
  intro n2 h2 eh
  have w2 : lw_W A1 mq B oa od K1 L1 I D yo yd h2 := by rw [eh]; exact w1
  refine sh_istore dc_Law_law_553 (by decide) ?_
  refine sh_aload_n dc_Law_law_555 rfl rfl ?_
  refine sh_aload_n dc_Law_law_556 rfl rfl ?_
  refine sh_iload dc_Law_law_557 rfl ?_
  refine sh_iconst (v := 1) dc_Law_law_559 (by decide) ?_
  refine sh_iadd dc_Law_law_560 ?_
  refine sh_ialdS dc_Law_law_561 q1 ?_
  rw [v1]
  refine sh_aload_n dc_Law_law_562 rfl rfl ?_
  refine sh_iload dc_Law_law_563 rfl ?_
  refine sh_iconst (v := 2) dc_Law_law_565 (by decide) ?_
  refine sh_iadd dc_Law_law_566 ?_
  refine sh_ialdS dc_Law_law_567 q2 ?_
  rw [v2]
  refine sh_aload_n dc_Law_law_568 rfl rfl ?_
  refine sh_iload dc_Law_law_569 rfl ?_
  refine sh_iconst (v := 3) dc_Law_law_571 (by decide) ?_
  refine sh_iadd dc_Law_law_572 ?_
  refine sh_ialdS dc_Law_law_573 q3 ?_
  rw [v3]
  refine sh_if_eq (tgt := 581) dc_Law_law_574 (by decide) (fun _ => ?_) (fun z => absurd h3 z)
  refine sh_iconst (v := 0) dc_Law_law_581 (by decide) ?_
  obtain ⟨h3, x1, g1, m1⟩ := hM n2 h2 h2 w2.2.1 sh_Fr.rf
  have w3 := lw_mod w2 x1 g1
  refine sh_callR (sh_virt (As := [.int e1, .int e2, .int 0]) dc_Law_law_582 lm_Mod_signal ln_Law_98 wd_1043 wd_1044 rfl rfl (Nat.le_of_ble_eq_true rfl) w2.2.1.1 rfl) m1 ⟨by decide, Nat.le_of_ble_eq_true rfl, by show cs+6 + 0 ≤ room_1.cells; omega, by show ss+36 + 0 ≤ room_1.slots; omega⟩ ?_
  refine sh_istore dc_Law_law_585 (by decide) ?_
  refine sh_aload_n dc_Law_law_587 rfl rfl ?_
  obtain ⟨h4, x2, g2, m2⟩ := (mx_Mod_thrown_1 (mq := mq) (A := B) (I := I') (D := D')) n2 h3 h3 w3.2.1 sh_Fr.rf
  have w4 := lw_mod w3 x2 g2
  refine sh_callR (sh_virt (As := []) dc_Law_law_588 lm_Mod_thrown ln_Law_74 wd_944 wd_945 rfl rfl (Nat.le_of_ble_eq_true rfl) w3.2.1.1 rfl) m2 ⟨by decide, Nat.le_of_ble_eq_true rfl, by show cs+6+0 + 0 ≤ room_1.cells; omega, by show ss+36+0 + 0 ≤ room_1.slots; omega⟩ ?_
  refine sh_iload dc_Law_law_591 rfl ?_
  refine sh_icmp_eq (tgt := 598) dc_Law_law_593 (by decide) (fun _ => ?_) (fun z => absurd e00 z)
  refine sh_iload dc_Law_law_598 rfl ?_
  refine sh_if_ne (tgt := 615) dc_Law_law_600 (by decide) (fun _ => ?_) (fun z => absurd z (by decide))
  refine sh_goto_ (tgt := 1050) dc_Law_law_615 (by decide) ?_
  refine sh_lvsub [2, 3, 4, 5, 6, 7] rfl ?_
  refine sh_widen (cs' := cs + 23) (ss' := ss + 116) (by show cs+6+0+0 ≤ cs + 23; omega) (by show ss+36+0+0 ≤ ss + 116; omega) ?_
  exact kk n2 h4 w4
theorem lc_signal_t02 {A1 : Nat → Nat} {mq : Nat} {B : Nat → Nat} {sc oa od a n n1 cs ss : Nat} {K1 I I' : sh_II} {L1 D D' : sh_DD} {fs : List Value} {yo : Int64} {yd : UInt64} {h h1 : sh_Hp} {Z0 : sh_Zt} {N : Nat} {xs : Nat → Int32} {i e1 e2 e3 : Int32} {u : Int32} (f0 : h a = some (false, 0, fs)) (q1 : vp_in (i + 1) N) (v1 : xs (i + 1).toNatClampNeg = e1) (q2 : vp_in (i + 2) N) (v2 : xs (i + 2).toNatClampNeg = e2) (q3 : vp_in (i + 3) N) (v3 : xs (i + 3).toNatClampNeg = e3) (h3 : e3 = 0) (w1 : lw_W A1 mq B oa od K1 L1 I D yo yd h1) (mC : sh_M md_Hall_signal [.ref a, .int e1, .int e2, .int 0] (n, h) (.inr (2, h1))) (hM : sh_mM mq B md_Mod_signal [.ref mq, .int e1, .int e2, .int 0] I D (some (.int u)) I' D') (e00 : I' 0 0 = 2) (hcs : cs + 23 ≤ room_1.cells) (hss : ss + 116 ≤ room_1.slots) (kk : ∀ n' h', lw_W A1 mq B oa od K1 L1 I' D' yo yd h' → sh_V md_Law_law (1050, [(5, .int i), (4, .ref od), (3, .ref oa), (2, .ref mq), (1, .ref a), (0, .ref sc)], []) (n', h') (cs + 23) (ss + 116) (lw_G sc N xs Z0)) : sh_V md_Law_law (522, [(5, .int i), (4, .ref od), (3, .ref oa), (2, .ref mq), (1, .ref a), (0, .ref sc)], []) (n, h) cs ss (lw_G sc N xs Z0) := by
  refine sh_aload_n dc_Law_law_522 rfl rfl ?_
  refine sh_aload_n dc_Law_law_523 rfl rfl ?_
  refine sh_iload dc_Law_law_524 rfl ?_
  refine sh_iconst (v := 1) dc_Law_law_526 (by decide) ?_
  refine sh_iadd dc_Law_law_527 ?_
  refine sh_ialdS dc_Law_law_528 q1 ?_
  rw [v1]
  refine sh_aload_n dc_Law_law_529 rfl rfl ?_
  refine sh_iload dc_Law_law_530 rfl ?_
  refine sh_iconst (v := 2) dc_Law_law_532 (by decide) ?_
  refine sh_iadd dc_Law_law_533 ?_
  refine sh_ialdS dc_Law_law_534 q2 ?_
  rw [v2]
  refine sh_aload_n dc_Law_law_535 rfl rfl ?_
  refine sh_iload dc_Law_law_536 rfl ?_
  refine sh_iconst (v := 3) dc_Law_law_538 (by decide) ?_
  refine sh_iadd dc_Law_law_539 ?_
  refine sh_ialdS dc_Law_law_540 q3 ?_
  rw [v3]
  refine sh_if_eq (tgt := 548) dc_Law_law_541 (by decide) (fun _ => ?_) (fun z => absurd h3 z)
  refine sh_iconst (v := 0) dc_Law_law_548 (by decide) ?_
  refine sh_aload_n dc_Law_law_549 rfl rfl ?_
  refine sh_callQ (sh_statW (n := 5) (As := [.ref a, .int e1, .int e2, .int 0, .ref oa]) dc_Law_law_550 wd_754 ⟨by decide, by decide⟩ (by decide) (by decide +kernel) ln_Law_95 wd_753 wd_48 rfl rfl (Nat.le_of_ble_eq_true rfl)) (lt_signal_2 f0 mC) ⟨by decide, Nat.le_of_ble_eq_true rfl, by show cs + 6 ≤ room_1.cells; omega, by show ss + 36 ≤ room_1.slots; omega⟩ ?_
  intro n2 h2 eh
  have w2 : lw_W A1 mq B oa od K1 L1 I D yo yd h2 := by rw [eh]; exact w1
  refine sh_istore dc_Law_law_553 (by decide) ?_
  refine sh_aload_n dc_Law_law_555 rfl rfl ?_
  refine sh_aload_n dc_Law_law_556 rfl rfl ?_
  refine sh_iload dc_Law_law_557 rfl ?_
  refine sh_iconst (v := 1) dc_Law_law_559 (by decide) ?_
  refine sh_iadd dc_Law_law_560 ?_
  refine sh_ialdS dc_Law_law_561 q1 ?_
  rw [v1]
  refine sh_aload_n dc_Law_law_562 rfl rfl ?_
  refine sh_iload dc_Law_law_563 rfl ?_
  refine sh_iconst (v := 2) dc_Law_law_565 (by decide) ?_
  refine sh_iadd dc_Law_law_566 ?_
  refine sh_ialdS dc_Law_law_567 q2 ?_
  rw [v2]
  refine sh_aload_n dc_Law_law_568 rfl rfl ?_
  refine sh_iload dc_Law_law_569 rfl ?_
  refine sh_iconst (v := 3) dc_Law_law_571 (by decide) ?_
  refine sh_iadd dc_Law_law_572 ?_
  refine sh_ialdS dc_Law_law_573 q3 ?_
  rw [v3]
  refine sh_if_eq (tgt := 581) dc_Law_law_574 (by decide) (fun _ => ?_) (fun z => absurd h3 z)
  refine sh_iconst (v := 0) dc_Law_law_581 (by decide) ?_
  obtain ⟨h3, x1, g1, m1⟩ := hM n2 h2 h2 w2.2.1 sh_Fr.rf
  have w3 := lw_mod w2 x1 g1
  refine sh_callR (sh_virt (As := [.int e1, .int e2, .int 0]) dc_Law_law_582 lm_Mod_signal ln_Law_98 wd_1043 wd_1044 rfl rfl (Nat.le_of_ble_eq_true rfl) w2.2.1.1 rfl) m1 ⟨by decide, Nat.le_of_ble_eq_true rfl, by show cs+6 + 0 ≤ room_1.cells; omega, by show ss+36 + 0 ≤ room_1.slots; omega⟩ ?_
  refine sh_istore dc_Law_law_585 (by decide) ?_
  refine sh_aload_n dc_Law_law_587 rfl rfl ?_
  obtain ⟨h4, x2, g2, m2⟩ := (mx_Mod_thrown_1 (mq := mq) (A := B) (I := I') (D := D')) n2 h3 h3 w3.2.1 sh_Fr.rf
  have w4 := lw_mod w3 x2 g2
  refine sh_callR (sh_virt (As := []) dc_Law_law_588 lm_Mod_thrown ln_Law_74 wd_944 wd_945 rfl rfl (Nat.le_of_ble_eq_true rfl) w3.2.1.1 rfl) m2 ⟨by decide, Nat.le_of_ble_eq_true rfl, by show cs+6+0 + 0 ≤ room_1.cells; omega, by show ss+36+0 + 0 ≤ room_1.slots; omega⟩ ?_
  refine sh_iload dc_Law_law_591 rfl ?_
  refine sh_icmp_eq (tgt := 598) dc_Law_law_593 (by decide) (fun _ => ?_) (fun z => absurd e00 z)
  refine sh_iload dc_Law_law_598 rfl ?_
  refine sh_if_ne (tgt := 615) dc_Law_law_600 (by decide) (fun _ => ?_) (fun z => absurd z (by decide))
  refine sh_goto_ (tgt := 1050) dc_Law_law_615 (by decide) ?_
  refine sh_lvsub [2, 3, 4, 5, 6, 7] rfl ?_
  refine sh_widen (cs' := cs + 23) (ss' := ss + 116) (by show cs+6+0+0 ≤ cs + 23; omega) (by show ss+36+0+0 ≤ ss + 116; omega) ?_
  exact kk n2 h4 w4
theorem lc_signal_t03 {A1 : Nat → Nat} {mq : Nat} {B : Nat → Nat} {sc oa od a n n1 cs ss : Nat} {K1 I I' : sh_II} {L1 D D' : sh_DD} {fs : List Value} {yo : Int64} {yd : UInt64} {h h1 : sh_Hp} {Z0 : sh_Zt} {N : Nat} {xs : Nat → Int32} {i e1 e2 e3 : Int32} {u : Int32} (f0 : h a = some (false, 0, fs)) (q1 : vp_in (i + 1) N) (v1 : xs (i + 1).toNatClampNeg = e1) (q2 : vp_in (i + 2) N) (v2 : xs (i + 2).toNatClampNeg = e2) (q3 : vp_in (i + 3) N) (v3 : xs (i + 3).toNatClampNeg = e3) (h3 : e3 = 0) (w1 : lw_W A1 mq B oa od K1 L1 I D yo yd h1) (mC : sh_M md_Hall_signal [.ref a, .int e1, .int e2, .int 0] (n, h) (.inr (3, h1))) (hM : sh_mM mq B md_Mod_signal [.ref mq, .int e1, .int e2, .int 0] I D (some (.int u)) I' D') (e00 : I' 0 0 = 3) (hcs : cs + 23 ≤ room_1.cells) (hss : ss + 116 ≤ room_1.slots) (kk : ∀ n' h', lw_W A1 mq B oa od K1 L1 I' D' yo yd h' → sh_V md_Law_law (1050, [(5, .int i), (4, .ref od), (3, .ref oa), (2, .ref mq), (1, .ref a), (0, .ref sc)], []) (n', h') (cs + 23) (ss + 116) (lw_G sc N xs Z0)) : sh_V md_Law_law (522, [(5, .int i), (4, .ref od), (3, .ref oa), (2, .ref mq), (1, .ref a), (0, .ref sc)], []) (n, h) cs ss (lw_G sc N xs Z0) := by
  refine sh_aload_n dc_Law_law_522 rfl rfl ?_
  refine sh_aload_n dc_Law_law_523 rfl rfl ?_
  refine sh_iload dc_Law_law_524 rfl ?_
  refine sh_iconst (v := 1) dc_Law_law_526 (by decide) ?_
  refine sh_iadd dc_Law_law_527 ?_
  refine sh_ialdS dc_Law_law_528 q1 ?_
  rw [v1]
  refine sh_aload_n dc_Law_law_529 rfl rfl ?_
  refine sh_iload dc_Law_law_530 rfl ?_
  refine sh_iconst (v := 2) dc_Law_law_532 (by decide) ?_
  refine sh_iadd dc_Law_law_533 ?_
  refine sh_ialdS dc_Law_law_534 q2 ?_
  rw [v2]
  refine sh_aload_n dc_Law_law_535 rfl rfl ?_
  refine sh_iload dc_Law_law_536 rfl ?_
  refine sh_iconst (v := 3) dc_Law_law_538 (by decide) ?_
  refine sh_iadd dc_Law_law_539 ?_
  refine sh_ialdS dc_Law_law_540 q3 ?_
  rw [v3]
  refine sh_if_eq (tgt := 548) dc_Law_law_541 (by decide) (fun _ => ?_) (fun z => absurd h3 z)
  refine sh_iconst (v := 0) dc_Law_law_548 (by decide) ?_
  refine sh_aload_n dc_Law_law_549 rfl rfl ?_
  refine sh_callQ (sh_statW (n := 5) (As := [.ref a, .int e1, .int e2, .int 0, .ref oa]) dc_Law_law_550 wd_754 ⟨by decide, by decide⟩ (by decide) (by decide +kernel) ln_Law_95 wd_753 wd_48 rfl rfl (Nat.le_of_ble_eq_true rfl)) (lt_signal_3 f0 mC) ⟨by decide, Nat.le_of_ble_eq_true rfl, by show cs + 6 ≤ room_1.cells; omega, by show ss + 36 ≤ room_1.slots; omega⟩ ?_
  intro n2 h2 eh
  have w2 : lw_W A1 mq B oa od K1 L1 I D yo yd h2 := by rw [eh]; exact w1
  refine sh_istore dc_Law_law_553 (by decide) ?_
  refine sh_aload_n dc_Law_law_555 rfl rfl ?_
  refine sh_aload_n dc_Law_law_556 rfl rfl ?_
  refine sh_iload dc_Law_law_557 rfl ?_
  refine sh_iconst (v := 1) dc_Law_law_559 (by decide) ?_
  refine sh_iadd dc_Law_law_560 ?_
  refine sh_ialdS dc_Law_law_561 q1 ?_
  rw [v1]
  refine sh_aload_n dc_Law_law_562 rfl rfl ?_
  refine sh_iload dc_Law_law_563 rfl ?_
  refine sh_iconst (v := 2) dc_Law_law_565 (by decide) ?_
  refine sh_iadd dc_Law_law_566 ?_
  refine sh_ialdS dc_Law_law_567 q2 ?_
  rw [v2]
  refine sh_aload_n dc_Law_law_568 rfl rfl ?_
  refine sh_iload dc_Law_law_569 rfl ?_
  refine sh_iconst (v := 3) dc_Law_law_571 (by decide) ?_
  refine sh_iadd dc_Law_law_572 ?_
  refine sh_ialdS dc_Law_law_573 q3 ?_
  rw [v3]
  refine sh_if_eq (tgt := 581) dc_Law_law_574 (by decide) (fun _ => ?_) (fun z => absurd h3 z)
  refine sh_iconst (v := 0) dc_Law_law_581 (by decide) ?_
  obtain ⟨h3, x1, g1, m1⟩ := hM n2 h2 h2 w2.2.1 sh_Fr.rf
  have w3 := lw_mod w2 x1 g1
  refine sh_callR (sh_virt (As := [.int e1, .int e2, .int 0]) dc_Law_law_582 lm_Mod_signal ln_Law_98 wd_1043 wd_1044 rfl rfl (Nat.le_of_ble_eq_true rfl) w2.2.1.1 rfl) m1 ⟨by decide, Nat.le_of_ble_eq_true rfl, by show cs+6 + 0 ≤ room_1.cells; omega, by show ss+36 + 0 ≤ room_1.slots; omega⟩ ?_
  refine sh_istore dc_Law_law_585 (by decide) ?_
  refine sh_aload_n dc_Law_law_587 rfl rfl ?_
  obtain ⟨h4, x2, g2, m2⟩ := (mx_Mod_thrown_1 (mq := mq) (A := B) (I := I') (D := D')) n2 h3 h3 w3.2.1 sh_Fr.rf
  have w4 := lw_mod w3 x2 g2
  refine sh_callR (sh_virt (As := []) dc_Law_law_588 lm_Mod_thrown ln_Law_74 wd_944 wd_945 rfl rfl (Nat.le_of_ble_eq_true rfl) w3.2.1.1 rfl) m2 ⟨by decide, Nat.le_of_ble_eq_true rfl, by show cs+6+0 + 0 ≤ room_1.cells; omega, by show ss+36+0 + 0 ≤ room_1.slots; omega⟩ ?_
  refine sh_iload dc_Law_law_591 rfl ?_
  refine sh_icmp_eq (tgt := 598) dc_Law_law_593 (by decide) (fun _ => ?_) (fun z => absurd e00 z)
  refine sh_iload dc_Law_law_598 rfl ?_
  refine sh_if_ne (tgt := 615) dc_Law_law_600 (by decide) (fun _ => ?_) (fun z => absurd z (by decide))
  refine sh_goto_ (tgt := 1050) dc_Law_law_615 (by decide) ?_
  refine sh_lvsub [2, 3, 4, 5, 6, 7] rfl ?_
  refine sh_widen (cs' := cs + 23) (ss' := ss + 116) (by show cs+6+0+0 ≤ cs + 23; omega) (by show ss+36+0+0 ≤ ss + 116; omega) ?_
  exact kk n2 h4 w4
theorem lc_signal_t04 {A1 : Nat → Nat} {mq : Nat} {B : Nat → Nat} {sc oa od a n n1 cs ss : Nat} {K1 I I' : sh_II} {L1 D D' : sh_DD} {fs : List Value} {yo : Int64} {yd : UInt64} {h h1 : sh_Hp} {Z0 : sh_Zt} {N : Nat} {xs : Nat → Int32} {i e1 e2 e3 : Int32} {u : Int32} (f0 : h a = some (false, 0, fs)) (q1 : vp_in (i + 1) N) (v1 : xs (i + 1).toNatClampNeg = e1) (q2 : vp_in (i + 2) N) (v2 : xs (i + 2).toNatClampNeg = e2) (q3 : vp_in (i + 3) N) (v3 : xs (i + 3).toNatClampNeg = e3) (h3 : e3 = 0) (w1 : lw_W A1 mq B oa od K1 L1 I D yo yd h1) (mC : sh_M md_Hall_signal [.ref a, .int e1, .int e2, .int 0] (n, h) (.inr (4, h1))) (hM : sh_mM mq B md_Mod_signal [.ref mq, .int e1, .int e2, .int 0] I D (some (.int u)) I' D') (e00 : I' 0 0 = 4) (hcs : cs + 23 ≤ room_1.cells) (hss : ss + 116 ≤ room_1.slots) (kk : ∀ n' h', lw_W A1 mq B oa od K1 L1 I' D' yo yd h' → sh_V md_Law_law (1050, [(5, .int i), (4, .ref od), (3, .ref oa), (2, .ref mq), (1, .ref a), (0, .ref sc)], []) (n', h') (cs + 23) (ss + 116) (lw_G sc N xs Z0)) : sh_V md_Law_law (522, [(5, .int i), (4, .ref od), (3, .ref oa), (2, .ref mq), (1, .ref a), (0, .ref sc)], []) (n, h) cs ss (lw_G sc N xs Z0) := by
  refine sh_aload_n dc_Law_law_522 rfl rfl ?_
  refine sh_aload_n dc_Law_law_523 rfl rfl ?_
  refine sh_iload dc_Law_law_524 rfl ?_
  refine sh_iconst (v := 1) dc_Law_law_526 (by decide) ?_
  refine sh_iadd dc_Law_law_527 ?_
  refine sh_ialdS dc_Law_law_528 q1 ?_
  rw [v1]
  refine sh_aload_n dc_Law_law_529 rfl rfl ?_
  refine sh_iload dc_Law_law_530 rfl ?_
  refine sh_iconst (v := 2) dc_Law_law_532 (by decide) ?_
  refine sh_iadd dc_Law_law_533 ?_
  refine sh_ialdS dc_Law_law_534 q2 ?_
  rw [v2]
  refine sh_aload_n dc_Law_law_535 rfl rfl ?_
  refine sh_iload dc_Law_law_536 rfl ?_
  refine sh_iconst (v := 3) dc_Law_law_538 (by decide) ?_
  refine sh_iadd dc_Law_law_539 ?_
  refine sh_ialdS dc_Law_law_540 q3 ?_
  rw [v3]
  refine sh_if_eq (tgt := 548) dc_Law_law_541 (by decide) (fun _ => ?_) (fun z => absurd h3 z)
  refine sh_iconst (v := 0) dc_Law_law_548 (by decide) ?_
  refine sh_aload_n dc_Law_law_549 rfl rfl ?_
  refine sh_callQ (sh_statW (n := 5) (As := [.ref a, .int e1, .int e2, .int 0, .ref oa]) dc_Law_law_550 wd_754 ⟨by decide, by decide⟩ (by decide) (by decide +kernel) ln_Law_95 wd_753 wd_48 rfl rfl (Nat.le_of_ble_eq_true rfl)) (lt_signal_4 f0 mC) ⟨by decide, Nat.le_of_ble_eq_true rfl, by show cs + 6 ≤ room_1.cells; omega, by show ss + 36 ≤ room_1.slots; omega⟩ ?_
  intro n2 h2 eh
  have w2 : lw_W A1 mq B oa od K1 L1 I D yo yd h2 := by rw [eh]; exact w1
  refine sh_istore dc_Law_law_553 (by decide) ?_
  refine sh_aload_n dc_Law_law_555 rfl rfl ?_
  refine sh_aload_n dc_Law_law_556 rfl rfl ?_
  refine sh_iload dc_Law_law_557 rfl ?_
  refine sh_iconst (v := 1) dc_Law_law_559 (by decide) ?_
  refine sh_iadd dc_Law_law_560 ?_
  refine sh_ialdS dc_Law_law_561 q1 ?_
  rw [v1]
  refine sh_aload_n dc_Law_law_562 rfl rfl ?_
  refine sh_iload dc_Law_law_563 rfl ?_
  refine sh_iconst (v := 2) dc_Law_law_565 (by decide) ?_
  refine sh_iadd dc_Law_law_566 ?_
  refine sh_ialdS dc_Law_law_567 q2 ?_
  rw [v2]
  refine sh_aload_n dc_Law_law_568 rfl rfl ?_
  refine sh_iload dc_Law_law_569 rfl ?_
  refine sh_iconst (v := 3) dc_Law_law_571 (by decide) ?_
  refine sh_iadd dc_Law_law_572 ?_
  refine sh_ialdS dc_Law_law_573 q3 ?_
  rw [v3]
  refine sh_if_eq (tgt := 581) dc_Law_law_574 (by decide) (fun _ => ?_) (fun z => absurd h3 z)
  refine sh_iconst (v := 0) dc_Law_law_581 (by decide) ?_
  obtain ⟨h3, x1, g1, m1⟩ := hM n2 h2 h2 w2.2.1 sh_Fr.rf
  have w3 := lw_mod w2 x1 g1
  refine sh_callR (sh_virt (As := [.int e1, .int e2, .int 0]) dc_Law_law_582 lm_Mod_signal ln_Law_98 wd_1043 wd_1044 rfl rfl (Nat.le_of_ble_eq_true rfl) w2.2.1.1 rfl) m1 ⟨by decide, Nat.le_of_ble_eq_true rfl, by show cs+6 + 0 ≤ room_1.cells; omega, by show ss+36 + 0 ≤ room_1.slots; omega⟩ ?_
  refine sh_istore dc_Law_law_585 (by decide) ?_
  refine sh_aload_n dc_Law_law_587 rfl rfl ?_
  obtain ⟨h4, x2, g2, m2⟩ := (mx_Mod_thrown_1 (mq := mq) (A := B) (I := I') (D := D')) n2 h3 h3 w3.2.1 sh_Fr.rf
  have w4 := lw_mod w3 x2 g2
  refine sh_callR (sh_virt (As := []) dc_Law_law_588 lm_Mod_thrown ln_Law_74 wd_944 wd_945 rfl rfl (Nat.le_of_ble_eq_true rfl) w3.2.1.1 rfl) m2 ⟨by decide, Nat.le_of_ble_eq_true rfl, by show cs+6+0 + 0 ≤ room_1.cells; omega, by show ss+36+0 + 0 ≤ room_1.slots; omega⟩ ?_
  refine sh_iload dc_Law_law_591 rfl ?_
  refine sh_icmp_eq (tgt := 598) dc_Law_law_593 (by decide) (fun _ => ?_) (fun z => absurd e00 z)
  refine sh_iload dc_Law_law_598 rfl ?_
  refine sh_if_ne (tgt := 615) dc_Law_law_600 (by decide) (fun _ => ?_) (fun z => absurd z (by decide))
  refine sh_goto_ (tgt := 1050) dc_Law_law_615 (by decide) ?_
  refine sh_lvsub [2, 3, 4, 5, 6, 7] rfl ?_
  refine sh_widen (cs' := cs + 23) (ss' := ss + 116) (by show cs+6+0+0 ≤ cs + 23; omega) (by show ss+36+0+0 ≤ ss + 116; omega) ?_
  exact kk n2 h4 w4
theorem lc_signal_r1 {A1 : Nat → Nat} {mq : Nat} {B : Nat → Nat} {sc oa od a n n1 cs ss : Nat} {K1 I I' : sh_II} {L1 D D' : sh_DD} {fs : List Value} {yo : Int64} {yd : UInt64} {h h1 : sh_Hp} {Z0 : sh_Zt} {N : Nat} {xs : Nat → Int32} {i e1 e2 e3 : Int32} {v : Int32} (f0 : h a = some (false, 0, fs)) (q1 : vp_in (i + 1) N) (v1 : xs (i + 1).toNatClampNeg = e1) (q2 : vp_in (i + 2) N) (v2 : xs (i + 2).toNatClampNeg = e2) (q3 : vp_in (i + 3) N) (v3 : xs (i + 3).toNatClampNeg = e3) (h3 : ¬ e3 = 0) (w1 : lw_W A1 mq B oa od K1 L1 I D yo yd h1) (mC : sh_M md_Hall_signal [.ref a, .int e1, .int e2, .int 1] (n, h) (.inl (some (.int v), (n1, h1)))) (hM : sh_mM mq B md_Mod_signal [.ref mq, .int e1, .int e2, .int 1] I D (some (.int v)) I' D') (e00 : I' 0 0 = 0) (hcs : cs + 23 ≤ room_1.cells) (hss : ss + 116 ≤ room_1.slots) (kk : ∀ n' h', lw_W A1 mq B oa od K1 L1 I' D' v.toInt64 yd h' → sh_V md_Law_law (1050, [(5, .int i), (4, .ref od), (3, .ref oa), (2, .ref mq), (1, .ref a), (0, .ref sc)], []) (n', h') (cs + 23) (ss + 116) (lw_G sc N xs Z0)) : sh_V md_Law_law (522, [(5, .int i), (4, .ref od), (3, .ref oa), (2, .ref mq), (1, .ref a), (0, .ref sc)], []) (n, h) cs ss (lw_G sc N xs Z0) := by
  refine sh_aload_n dc_Law_law_522 rfl rfl ?_
  refine sh_aload_n dc_Law_law_523 rfl rfl ?_
  refine sh_iload dc_Law_law_524 rfl ?_
  refine sh_iconst (v := 1) dc_Law_law_526 (by decide) ?_
  refine sh_iadd dc_Law_law_527 ?_
  refine sh_ialdS dc_Law_law_528 q1 ?_
  rw [v1]
  refine sh_aload_n dc_Law_law_529 rfl rfl ?_
  refine sh_iload dc_Law_law_530 rfl ?_
  refine sh_iconst (v := 2) dc_Law_law_532 (by decide) ?_
  refine sh_iadd dc_Law_law_533 ?_
  refine sh_ialdS dc_Law_law_534 q2 ?_
  rw [v2]
  refine sh_aload_n dc_Law_law_535 rfl rfl ?_
  refine sh_iload dc_Law_law_536 rfl ?_
  refine sh_iconst (v := 3) dc_Law_law_538 (by decide) ?_
  refine sh_iadd dc_Law_law_539 ?_
  refine sh_ialdS dc_Law_law_540 q3 ?_
  rw [v3]
  refine sh_if_eq (tgt := 548) dc_Law_law_541 (by decide) (fun z => absurd z h3) (fun _ => ?_)
  refine sh_iconst (v := 1) dc_Law_law_544 (by decide) ?_
  refine sh_goto_ (tgt := 549) dc_Law_law_545 (by decide) ?_
  refine sh_aload_n dc_Law_law_549 rfl rfl ?_
  refine sh_callQ (sh_statW (n := 5) (As := [.ref a, .int e1, .int e2, .int 1, .ref oa]) dc_Law_law_550 wd_754 ⟨by decide, by decide⟩ (by decide) (by decide +kernel) ln_Law_95 wd_753 wd_48 rfl rfl (Nat.le_of_ble_eq_true rfl)) (lr_signal f0 mC w1.2.2.1) ⟨by decide, Nat.le_of_ble_eq_true rfl, by show cs + 6 ≤ room_1.cells; omega, by show ss + 36 ≤ room_1.slots; omega⟩ ?_
  intro n2 h2 eh
  have w2 : lw_W A1 mq B oa od K1 L1 I D v.toInt64 yd h2 := by rw [eh]; exact lw_out w1
  refine sh_istore dc_Law_law_553 (by decide) ?_
  refine sh_aload_n dc_Law_law_555 rfl rfl ?_
  refine sh_aload_n dc_Law_law_556 rfl rfl ?_
  refine sh_iload dc_Law_law_557 rfl ?_
  refine sh_iconst (v := 1) dc_Law_law_559 (by decide) ?_
  refine sh_iadd dc_Law_law_560 ?_
  refine sh_ialdS dc_Law_law_561 q1 ?_
  rw [v1]
  refine sh_aload_n dc_Law_law_562 rfl rfl ?_
  refine sh_iload dc_Law_law_563 rfl ?_
  refine sh_iconst (v := 2) dc_Law_law_565 (by decide) ?_
  refine sh_iadd dc_Law_law_566 ?_
  refine sh_ialdS dc_Law_law_567 q2 ?_
  rw [v2]
  refine sh_aload_n dc_Law_law_568 rfl rfl ?_
  refine sh_iload dc_Law_law_569 rfl ?_
  refine sh_iconst (v := 3) dc_Law_law_571 (by decide) ?_
  refine sh_iadd dc_Law_law_572 ?_
  refine sh_ialdS dc_Law_law_573 q3 ?_
  rw [v3]
  refine sh_if_eq (tgt := 581) dc_Law_law_574 (by decide) (fun z => absurd z h3) (fun _ => ?_)
  refine sh_iconst (v := 1) dc_Law_law_577 (by decide) ?_
  refine sh_goto_ (tgt := 582) dc_Law_law_578 (by decide) ?_
  obtain ⟨h3, x1, g1, m1⟩ := hM n2 h2 h2 w2.2.1 sh_Fr.rf
  have w3 := lw_mod w2 x1 g1
  refine sh_callR (sh_virt (As := [.int e1, .int e2, .int 1]) dc_Law_law_582 lm_Mod_signal ln_Law_98 wd_1043 wd_1044 rfl rfl (Nat.le_of_ble_eq_true rfl) w2.2.1.1 rfl) m1 ⟨by decide, Nat.le_of_ble_eq_true rfl, by show cs+6 + 0 ≤ room_1.cells; omega, by show ss+36 + 0 ≤ room_1.slots; omega⟩ ?_
  refine sh_istore dc_Law_law_585 (by decide) ?_
  refine sh_aload_n dc_Law_law_587 rfl rfl ?_
  obtain ⟨h4, x2, g2, m2⟩ := (mx_Mod_thrown_1 (mq := mq) (A := B) (I := I') (D := D')) n2 h3 h3 w3.2.1 sh_Fr.rf
  have w4 := lw_mod w3 x2 g2
  refine sh_callR (sh_virt (As := []) dc_Law_law_588 lm_Mod_thrown ln_Law_74 wd_944 wd_945 rfl rfl (Nat.le_of_ble_eq_true rfl) w3.2.1.1 rfl) m2 ⟨by decide, Nat.le_of_ble_eq_true rfl, by show cs+6+0 + 0 ≤ room_1.cells; omega, by show ss+36+0 + 0 ≤ room_1.slots; omega⟩ ?_
  refine sh_iload dc_Law_law_591 rfl ?_
  refine sh_icmp_eq (tgt := 598) dc_Law_law_593 (by decide) (fun _ => ?_) (fun z => absurd e00 z)
  refine sh_iload dc_Law_law_598 rfl ?_
  refine sh_if_ne (tgt := 615) dc_Law_law_600 (by decide) (fun z => absurd (by decide) z) (fun _ => ?_)
  refine sh_aload_n dc_Law_law_603 rfl rfl ?_
  refine sh_iconst (v := 0) dc_Law_law_604 (by decide) ?_
  refine sh_lald (i := 0) dc_Law_law_605 w4.2.2.1 rfl (by decide) rfl ?_
  refine sh_iload dc_Law_law_606 rfl ?_
  refine sh_i2l dc_Law_law_608 ?_
  refine sh_lcmp dc_Law_law_609 ?_
  refine sh_if_eq (tgt := 615) dc_Law_law_610 (by decide) (fun _ => ?_) (fun z => absurd (by decide) z)
  refine sh_goto_ (tgt := 1050) dc_Law_law_615 (by decide) ?_
  refine sh_lvsub [2, 3, 4, 5, 6, 7] rfl ?_
  refine sh_widen (cs' := cs + 23) (ss' := ss + 116) (by show cs+6+0+0 ≤ cs + 23; omega) (by show ss+36+0+0 ≤ ss + 116; omega) ?_
  exact kk n2 h4 w4
theorem lc_signal_t11 {A1 : Nat → Nat} {mq : Nat} {B : Nat → Nat} {sc oa od a n n1 cs ss : Nat} {K1 I I' : sh_II} {L1 D D' : sh_DD} {fs : List Value} {yo : Int64} {yd : UInt64} {h h1 : sh_Hp} {Z0 : sh_Zt} {N : Nat} {xs : Nat → Int32} {i e1 e2 e3 : Int32} {u : Int32} (f0 : h a = some (false, 0, fs)) (q1 : vp_in (i + 1) N) (v1 : xs (i + 1).toNatClampNeg = e1) (q2 : vp_in (i + 2) N) (v2 : xs (i + 2).toNatClampNeg = e2) (q3 : vp_in (i + 3) N) (v3 : xs (i + 3).toNatClampNeg = e3) (h3 : ¬ e3 = 0) (w1 : lw_W A1 mq B oa od K1 L1 I D yo yd h1) (mC : sh_M md_Hall_signal [.ref a, .int e1, .int e2, .int 1] (n, h) (.inr (1, h1))) (hM : sh_mM mq B md_Mod_signal [.ref mq, .int e1, .int e2, .int 1] I D (some (.int u)) I' D') (e00 : I' 0 0 = 1) (hcs : cs + 23 ≤ room_1.cells) (hss : ss + 116 ≤ room_1.slots) (kk : ∀ n' h', lw_W A1 mq B oa od K1 L1 I' D' yo yd h' → sh_V md_Law_law (1050, [(5, .int i), (4, .ref od), (3, .ref oa), (2, .ref mq), (1, .ref a), (0, .ref sc)], []) (n', h') (cs + 23) (ss + 116) (lw_G sc N xs Z0)) : sh_V md_Law_law (522, [(5, .int i), (4, .ref od), (3, .ref oa), (2, .ref mq), (1, .ref a), (0, .ref sc)], []) (n, h) cs ss (lw_G sc N xs Z0) := by
  refine sh_aload_n dc_Law_law_522 rfl rfl ?_
  refine sh_aload_n dc_Law_law_523 rfl rfl ?_
  refine sh_iload dc_Law_law_524 rfl ?_
  refine sh_iconst (v := 1) dc_Law_law_526 (by decide) ?_
  refine sh_iadd dc_Law_law_527 ?_
  refine sh_ialdS dc_Law_law_528 q1 ?_
  rw [v1]
  refine sh_aload_n dc_Law_law_529 rfl rfl ?_
  refine sh_iload dc_Law_law_530 rfl ?_
  refine sh_iconst (v := 2) dc_Law_law_532 (by decide) ?_
  refine sh_iadd dc_Law_law_533 ?_
  refine sh_ialdS dc_Law_law_534 q2 ?_
  rw [v2]
  refine sh_aload_n dc_Law_law_535 rfl rfl ?_
  refine sh_iload dc_Law_law_536 rfl ?_
  refine sh_iconst (v := 3) dc_Law_law_538 (by decide) ?_
  refine sh_iadd dc_Law_law_539 ?_
  refine sh_ialdS dc_Law_law_540 q3 ?_
  rw [v3]
  refine sh_if_eq (tgt := 548) dc_Law_law_541 (by decide) (fun z => absurd z h3) (fun _ => ?_)
  refine sh_iconst (v := 1) dc_Law_law_544 (by decide) ?_
  refine sh_goto_ (tgt := 549) dc_Law_law_545 (by decide) ?_
  refine sh_aload_n dc_Law_law_549 rfl rfl ?_
  refine sh_callQ (sh_statW (n := 5) (As := [.ref a, .int e1, .int e2, .int 1, .ref oa]) dc_Law_law_550 wd_754 ⟨by decide, by decide⟩ (by decide) (by decide +kernel) ln_Law_95 wd_753 wd_48 rfl rfl (Nat.le_of_ble_eq_true rfl)) (lt_signal_1 f0 mC) ⟨by decide, Nat.le_of_ble_eq_true rfl, by show cs + 6 ≤ room_1.cells; omega, by show ss + 36 ≤ room_1.slots; omega⟩ ?_
  intro n2 h2 eh
  have w2 : lw_W A1 mq B oa od K1 L1 I D yo yd h2 := by rw [eh]; exact w1
  refine sh_istore dc_Law_law_553 (by decide) ?_
  refine sh_aload_n dc_Law_law_555 rfl rfl ?_
  refine sh_aload_n dc_Law_law_556 rfl rfl ?_
  refine sh_iload dc_Law_law_557 rfl ?_
  refine sh_iconst (v := 1) dc_Law_law_559 (by decide) ?_
  refine sh_iadd dc_Law_law_560 ?_
  refine sh_ialdS dc_Law_law_561 q1 ?_
  rw [v1]
  refine sh_aload_n dc_Law_law_562 rfl rfl ?_
  refine sh_iload dc_Law_law_563 rfl ?_
  refine sh_iconst (v := 2) dc_Law_law_565 (by decide) ?_
  refine sh_iadd dc_Law_law_566 ?_
  refine sh_ialdS dc_Law_law_567 q2 ?_
  rw [v2]
  refine sh_aload_n dc_Law_law_568 rfl rfl ?_
  refine sh_iload dc_Law_law_569 rfl ?_
  refine sh_iconst (v := 3) dc_Law_law_571 (by decide) ?_
  refine sh_iadd dc_Law_law_572 ?_
  refine sh_ialdS dc_Law_law_573 q3 ?_
  rw [v3]
  refine sh_if_eq (tgt := 581) dc_Law_law_574 (by decide) (fun z => absurd z h3) (fun _ => ?_)
  refine sh_iconst (v := 1) dc_Law_law_577 (by decide) ?_
  refine sh_goto_ (tgt := 582) dc_Law_law_578 (by decide) ?_
  obtain ⟨h3, x1, g1, m1⟩ := hM n2 h2 h2 w2.2.1 sh_Fr.rf
  have w3 := lw_mod w2 x1 g1
  refine sh_callR (sh_virt (As := [.int e1, .int e2, .int 1]) dc_Law_law_582 lm_Mod_signal ln_Law_98 wd_1043 wd_1044 rfl rfl (Nat.le_of_ble_eq_true rfl) w2.2.1.1 rfl) m1 ⟨by decide, Nat.le_of_ble_eq_true rfl, by show cs+6 + 0 ≤ room_1.cells; omega, by show ss+36 + 0 ≤ room_1.slots; omega⟩ ?_
  refine sh_istore dc_Law_law_585 (by decide) ?_
  refine sh_aload_n dc_Law_law_587 rfl rfl ?_
  obtain ⟨h4, x2, g2, m2⟩ := (mx_Mod_thrown_1 (mq := mq) (A := B) (I := I') (D := D')) n2 h3 h3 w3.2.1 sh_Fr.rf
  have w4 := lw_mod w3 x2 g2
  refine sh_callR (sh_virt (As := []) dc_Law_law_588 lm_Mod_thrown ln_Law_74 wd_944 wd_945 rfl rfl (Nat.le_of_ble_eq_true rfl) w3.2.1.1 rfl) m2 ⟨by decide, Nat.le_of_ble_eq_true rfl, by show cs+6+0 + 0 ≤ room_1.cells; omega, by show ss+36+0 + 0 ≤ room_1.slots; omega⟩ ?_
  refine sh_iload dc_Law_law_591 rfl ?_
  refine sh_icmp_eq (tgt := 598) dc_Law_law_593 (by decide) (fun _ => ?_) (fun z => absurd e00 z)
  refine sh_iload dc_Law_law_598 rfl ?_
  refine sh_if_ne (tgt := 615) dc_Law_law_600 (by decide) (fun _ => ?_) (fun z => absurd z (by decide))
  refine sh_goto_ (tgt := 1050) dc_Law_law_615 (by decide) ?_
  refine sh_lvsub [2, 3, 4, 5, 6, 7] rfl ?_
  refine sh_widen (cs' := cs + 23) (ss' := ss + 116) (by show cs+6+0+0 ≤ cs + 23; omega) (by show ss+36+0+0 ≤ ss + 116; omega) ?_
  exact kk n2 h4 w4
theorem lc_signal_t12 {A1 : Nat → Nat} {mq : Nat} {B : Nat → Nat} {sc oa od a n n1 cs ss : Nat} {K1 I I' : sh_II} {L1 D D' : sh_DD} {fs : List Value} {yo : Int64} {yd : UInt64} {h h1 : sh_Hp} {Z0 : sh_Zt} {N : Nat} {xs : Nat → Int32} {i e1 e2 e3 : Int32} {u : Int32} (f0 : h a = some (false, 0, fs)) (q1 : vp_in (i + 1) N) (v1 : xs (i + 1).toNatClampNeg = e1) (q2 : vp_in (i + 2) N) (v2 : xs (i + 2).toNatClampNeg = e2) (q3 : vp_in (i + 3) N) (v3 : xs (i + 3).toNatClampNeg = e3) (h3 : ¬ e3 = 0) (w1 : lw_W A1 mq B oa od K1 L1 I D yo yd h1) (mC : sh_M md_Hall_signal [.ref a, .int e1, .int e2, .int 1] (n, h) (.inr (2, h1))) (hM : sh_mM mq B md_Mod_signal [.ref mq, .int e1, .int e2, .int 1] I D (some (.int u)) I' D') (e00 : I' 0 0 = 2) (hcs : cs + 23 ≤ room_1.cells) (hss : ss + 116 ≤ room_1.slots) (kk : ∀ n' h', lw_W A1 mq B oa od K1 L1 I' D' yo yd h' → sh_V md_Law_law (1050, [(5, .int i), (4, .ref od), (3, .ref oa), (2, .ref mq), (1, .ref a), (0, .ref sc)], []) (n', h') (cs + 23) (ss + 116) (lw_G sc N xs Z0)) : sh_V md_Law_law (522, [(5, .int i), (4, .ref od), (3, .ref oa), (2, .ref mq), (1, .ref a), (0, .ref sc)], []) (n, h) cs ss (lw_G sc N xs Z0) := by
  refine sh_aload_n dc_Law_law_522 rfl rfl ?_
  refine sh_aload_n dc_Law_law_523 rfl rfl ?_
  refine sh_iload dc_Law_law_524 rfl ?_
  refine sh_iconst (v := 1) dc_Law_law_526 (by decide) ?_
  refine sh_iadd dc_Law_law_527 ?_
  refine sh_ialdS dc_Law_law_528 q1 ?_
  rw [v1]
  refine sh_aload_n dc_Law_law_529 rfl rfl ?_
  refine sh_iload dc_Law_law_530 rfl ?_
  refine sh_iconst (v := 2) dc_Law_law_532 (by decide) ?_
  refine sh_iadd dc_Law_law_533 ?_
  refine sh_ialdS dc_Law_law_534 q2 ?_
  rw [v2]
  refine sh_aload_n dc_Law_law_535 rfl rfl ?_
  refine sh_iload dc_Law_law_536 rfl ?_
  refine sh_iconst (v := 3) dc_Law_law_538 (by decide) ?_
  refine sh_iadd dc_Law_law_539 ?_
  refine sh_ialdS dc_Law_law_540 q3 ?_
  rw [v3]
  refine sh_if_eq (tgt := 548) dc_Law_law_541 (by decide) (fun z => absurd z h3) (fun _ => ?_)
  refine sh_iconst (v := 1) dc_Law_law_544 (by decide) ?_
  refine sh_goto_ (tgt := 549) dc_Law_law_545 (by decide) ?_
  refine sh_aload_n dc_Law_law_549 rfl rfl ?_
  refine sh_callQ (sh_statW (n := 5) (As := [.ref a, .int e1, .int e2, .int 1, .ref oa]) dc_Law_law_550 wd_754 ⟨by decide, by decide⟩ (by decide) (by decide +kernel) ln_Law_95 wd_753 wd_48 rfl rfl (Nat.le_of_ble_eq_true rfl)) (lt_signal_2 f0 mC) ⟨by decide, Nat.le_of_ble_eq_true rfl, by show cs + 6 ≤ room_1.cells; omega, by show ss + 36 ≤ room_1.slots; omega⟩ ?_
  intro n2 h2 eh
  have w2 : lw_W A1 mq B oa od K1 L1 I D yo yd h2 := by rw [eh]; exact w1
  refine sh_istore dc_Law_law_553 (by decide) ?_
  refine sh_aload_n dc_Law_law_555 rfl rfl ?_
  refine sh_aload_n dc_Law_law_556 rfl rfl ?_
  refine sh_iload dc_Law_law_557 rfl ?_
  refine sh_iconst (v := 1) dc_Law_law_559 (by decide) ?_
  refine sh_iadd dc_Law_law_560 ?_
  refine sh_ialdS dc_Law_law_561 q1 ?_
  rw [v1]
  refine sh_aload_n dc_Law_law_562 rfl rfl ?_
  refine sh_iload dc_Law_law_563 rfl ?_
  refine sh_iconst (v := 2) dc_Law_law_565 (by decide) ?_
  refine sh_iadd dc_Law_law_566 ?_
  refine sh_ialdS dc_Law_law_567 q2 ?_
  rw [v2]
  refine sh_aload_n dc_Law_law_568 rfl rfl ?_
  refine sh_iload dc_Law_law_569 rfl ?_
  refine sh_iconst (v := 3) dc_Law_law_571 (by decide) ?_
  refine sh_iadd dc_Law_law_572 ?_
  refine sh_ialdS dc_Law_law_573 q3 ?_
  rw [v3]
  refine sh_if_eq (tgt := 581) dc_Law_law_574 (by decide) (fun z => absurd z h3) (fun _ => ?_)
  refine sh_iconst (v := 1) dc_Law_law_577 (by decide) ?_
  refine sh_goto_ (tgt := 582) dc_Law_law_578 (by decide) ?_
  obtain ⟨h3, x1, g1, m1⟩ := hM n2 h2 h2 w2.2.1 sh_Fr.rf
  have w3 := lw_mod w2 x1 g1
  refine sh_callR (sh_virt (As := [.int e1, .int e2, .int 1]) dc_Law_law_582 lm_Mod_signal ln_Law_98 wd_1043 wd_1044 rfl rfl (Nat.le_of_ble_eq_true rfl) w2.2.1.1 rfl) m1 ⟨by decide, Nat.le_of_ble_eq_true rfl, by show cs+6 + 0 ≤ room_1.cells; omega, by show ss+36 + 0 ≤ room_1.slots; omega⟩ ?_
  refine sh_istore dc_Law_law_585 (by decide) ?_
  refine sh_aload_n dc_Law_law_587 rfl rfl ?_
  obtain ⟨h4, x2, g2, m2⟩ := (mx_Mod_thrown_1 (mq := mq) (A := B) (I := I') (D := D')) n2 h3 h3 w3.2.1 sh_Fr.rf
  have w4 := lw_mod w3 x2 g2
  refine sh_callR (sh_virt (As := []) dc_Law_law_588 lm_Mod_thrown ln_Law_74 wd_944 wd_945 rfl rfl (Nat.le_of_ble_eq_true rfl) w3.2.1.1 rfl) m2 ⟨by decide, Nat.le_of_ble_eq_true rfl, by show cs+6+0 + 0 ≤ room_1.cells; omega, by show ss+36+0 + 0 ≤ room_1.slots; omega⟩ ?_
  refine sh_iload dc_Law_law_591 rfl ?_
  refine sh_icmp_eq (tgt := 598) dc_Law_law_593 (by decide) (fun _ => ?_) (fun z => absurd e00 z)
  refine sh_iload dc_Law_law_598 rfl ?_
  refine sh_if_ne (tgt := 615) dc_Law_law_600 (by decide) (fun _ => ?_) (fun z => absurd z (by decide))
  refine sh_goto_ (tgt := 1050) dc_Law_law_615 (by decide) ?_
  refine sh_lvsub [2, 3, 4, 5, 6, 7] rfl ?_
  refine sh_widen (cs' := cs + 23) (ss' := ss + 116) (by show cs+6+0+0 ≤ cs + 23; omega) (by show ss+36+0+0 ≤ ss + 116; omega) ?_
  exact kk n2 h4 w4
theorem lc_signal_t13 {A1 : Nat → Nat} {mq : Nat} {B : Nat → Nat} {sc oa od a n n1 cs ss : Nat} {K1 I I' : sh_II} {L1 D D' : sh_DD} {fs : List Value} {yo : Int64} {yd : UInt64} {h h1 : sh_Hp} {Z0 : sh_Zt} {N : Nat} {xs : Nat → Int32} {i e1 e2 e3 : Int32} {u : Int32} (f0 : h a = some (false, 0, fs)) (q1 : vp_in (i + 1) N) (v1 : xs (i + 1).toNatClampNeg = e1) (q2 : vp_in (i + 2) N) (v2 : xs (i + 2).toNatClampNeg = e2) (q3 : vp_in (i + 3) N) (v3 : xs (i + 3).toNatClampNeg = e3) (h3 : ¬ e3 = 0) (w1 : lw_W A1 mq B oa od K1 L1 I D yo yd h1) (mC : sh_M md_Hall_signal [.ref a, .int e1, .int e2, .int 1] (n, h) (.inr (3, h1))) (hM : sh_mM mq B md_Mod_signal [.ref mq, .int e1, .int e2, .int 1] I D (some (.int u)) I' D') (e00 : I' 0 0 = 3) (hcs : cs + 23 ≤ room_1.cells) (hss : ss + 116 ≤ room_1.slots) (kk : ∀ n' h', lw_W A1 mq B oa od K1 L1 I' D' yo yd h' → sh_V md_Law_law (1050, [(5, .int i), (4, .ref od), (3, .ref oa), (2, .ref mq), (1, .ref a), (0, .ref sc)], []) (n', h') (cs + 23) (ss + 116) (lw_G sc N xs Z0)) : sh_V md_Law_law (522, [(5, .int i), (4, .ref od), (3, .ref oa), (2, .ref mq), (1, .ref a), (0, .ref sc)], []) (n, h) cs ss (lw_G sc N xs Z0) := by
  refine sh_aload_n dc_Law_law_522 rfl rfl ?_
  refine sh_aload_n dc_Law_law_523 rfl rfl ?_
  refine sh_iload dc_Law_law_524 rfl ?_
  refine sh_iconst (v := 1) dc_Law_law_526 (by decide) ?_
  refine sh_iadd dc_Law_law_527 ?_
  refine sh_ialdS dc_Law_law_528 q1 ?_
  rw [v1]
  refine sh_aload_n dc_Law_law_529 rfl rfl ?_
  refine sh_iload dc_Law_law_530 rfl ?_
  refine sh_iconst (v := 2) dc_Law_law_532 (by decide) ?_
  refine sh_iadd dc_Law_law_533 ?_
  refine sh_ialdS dc_Law_law_534 q2 ?_
  rw [v2]
  refine sh_aload_n dc_Law_law_535 rfl rfl ?_
  refine sh_iload dc_Law_law_536 rfl ?_
  refine sh_iconst (v := 3) dc_Law_law_538 (by decide) ?_
  refine sh_iadd dc_Law_law_539 ?_
  refine sh_ialdS dc_Law_law_540 q3 ?_
  rw [v3]
  refine sh_if_eq (tgt := 548) dc_Law_law_541 (by decide) (fun z => absurd z h3) (fun _ => ?_)
  refine sh_iconst (v := 1) dc_Law_law_544 (by decide) ?_
  refine sh_goto_ (tgt := 549) dc_Law_law_545 (by decide) ?_
  refine sh_aload_n dc_Law_law_549 rfl rfl ?_
  refine sh_callQ (sh_statW (n := 5) (As := [.ref a, .int e1, .int e2, .int 1, .ref oa]) dc_Law_law_550 wd_754 ⟨by decide, by decide⟩ (by decide) (by decide +kernel) ln_Law_95 wd_753 wd_48 rfl rfl (Nat.le_of_ble_eq_true rfl)) (lt_signal_3 f0 mC) ⟨by decide, Nat.le_of_ble_eq_true rfl, by show cs + 6 ≤ room_1.cells; omega, by show ss + 36 ≤ room_1.slots; omega⟩ ?_
  intro n2 h2 eh
  have w2 : lw_W A1 mq B oa od K1 L1 I D yo yd h2 := by rw [eh]; exact w1
  refine sh_istore dc_Law_law_553 (by decide) ?_
  refine sh_aload_n dc_Law_law_555 rfl rfl ?_
  refine sh_aload_n dc_Law_law_556 rfl rfl ?_
  refine sh_iload dc_Law_law_557 rfl ?_
  refine sh_iconst (v := 1) dc_Law_law_559 (by decide) ?_
  refine sh_iadd dc_Law_law_560 ?_
  refine sh_ialdS dc_Law_law_561 q1 ?_
  rw [v1]
  refine sh_aload_n dc_Law_law_562 rfl rfl ?_
  refine sh_iload dc_Law_law_563 rfl ?_
  refine sh_iconst (v := 2) dc_Law_law_565 (by decide) ?_
  refine sh_iadd dc_Law_law_566 ?_
  refine sh_ialdS dc_Law_law_567 q2 ?_
  rw [v2]
  refine sh_aload_n dc_Law_law_568 rfl rfl ?_
  refine sh_iload dc_Law_law_569 rfl ?_
  refine sh_iconst (v := 3) dc_Law_law_571 (by decide) ?_
  refine sh_iadd dc_Law_law_572 ?_
  refine sh_ialdS dc_Law_law_573 q3 ?_
  rw [v3]
  refine sh_if_eq (tgt := 581) dc_Law_law_574 (by decide) (fun z => absurd z h3) (fun _ => ?_)
  refine sh_iconst (v := 1) dc_Law_law_577 (by decide) ?_
  refine sh_goto_ (tgt := 582) dc_Law_law_578 (by decide) ?_
  obtain ⟨h3, x1, g1, m1⟩ := hM n2 h2 h2 w2.2.1 sh_Fr.rf
  have w3 := lw_mod w2 x1 g1
  refine sh_callR (sh_virt (As := [.int e1, .int e2, .int 1]) dc_Law_law_582 lm_Mod_signal ln_Law_98 wd_1043 wd_1044 rfl rfl (Nat.le_of_ble_eq_true rfl) w2.2.1.1 rfl) m1 ⟨by decide, Nat.le_of_ble_eq_true rfl, by show cs+6 + 0 ≤ room_1.cells; omega, by show ss+36 + 0 ≤ room_1.slots; omega⟩ ?_
  refine sh_istore dc_Law_law_585 (by decide) ?_
  refine sh_aload_n dc_Law_law_587 rfl rfl ?_
  obtain ⟨h4, x2, g2, m2⟩ := (mx_Mod_thrown_1 (mq := mq) (A := B) (I := I') (D := D')) n2 h3 h3 w3.2.1 sh_Fr.rf
  have w4 := lw_mod w3 x2 g2
  refine sh_callR (sh_virt (As := []) dc_Law_law_588 lm_Mod_thrown ln_Law_74 wd_944 wd_945 rfl rfl (Nat.le_of_ble_eq_true rfl) w3.2.1.1 rfl) m2 ⟨by decide, Nat.le_of_ble_eq_true rfl, by show cs+6+0 + 0 ≤ room_1.cells; omega, by show ss+36+0 + 0 ≤ room_1.slots; omega⟩ ?_
  refine sh_iload dc_Law_law_591 rfl ?_
  refine sh_icmp_eq (tgt := 598) dc_Law_law_593 (by decide) (fun _ => ?_) (fun z => absurd e00 z)
  refine sh_iload dc_Law_law_598 rfl ?_
  refine sh_if_ne (tgt := 615) dc_Law_law_600 (by decide) (fun _ => ?_) (fun z => absurd z (by decide))
  refine sh_goto_ (tgt := 1050) dc_Law_law_615 (by decide) ?_
  refine sh_lvsub [2, 3, 4, 5, 6, 7] rfl ?_
  refine sh_widen (cs' := cs + 23) (ss' := ss + 116) (by show cs+6+0+0 ≤ cs + 23; omega) (by show ss+36+0+0 ≤ ss + 116; omega) ?_
  exact kk n2 h4 w4
theorem lc_signal_t14 {A1 : Nat → Nat} {mq : Nat} {B : Nat → Nat} {sc oa od a n n1 cs ss : Nat} {K1 I I' : sh_II} {L1 D D' : sh_DD} {fs : List Value} {yo : Int64} {yd : UInt64} {h h1 : sh_Hp} {Z0 : sh_Zt} {N : Nat} {xs : Nat → Int32} {i e1 e2 e3 : Int32} {u : Int32} (f0 : h a = some (false, 0, fs)) (q1 : vp_in (i + 1) N) (v1 : xs (i + 1).toNatClampNeg = e1) (q2 : vp_in (i + 2) N) (v2 : xs (i + 2).toNatClampNeg = e2) (q3 : vp_in (i + 3) N) (v3 : xs (i + 3).toNatClampNeg = e3) (h3 : ¬ e3 = 0) (w1 : lw_W A1 mq B oa od K1 L1 I D yo yd h1) (mC : sh_M md_Hall_signal [.ref a, .int e1, .int e2, .int 1] (n, h) (.inr (4, h1))) (hM : sh_mM mq B md_Mod_signal [.ref mq, .int e1, .int e2, .int 1] I D (some (.int u)) I' D') (e00 : I' 0 0 = 4) (hcs : cs + 23 ≤ room_1.cells) (hss : ss + 116 ≤ room_1.slots) (kk : ∀ n' h', lw_W A1 mq B oa od K1 L1 I' D' yo yd h' → sh_V md_Law_law (1050, [(5, .int i), (4, .ref od), (3, .ref oa), (2, .ref mq), (1, .ref a), (0, .ref sc)], []) (n', h') (cs + 23) (ss + 116) (lw_G sc N xs Z0)) : sh_V md_Law_law (522, [(5, .int i), (4, .ref od), (3, .ref oa), (2, .ref mq), (1, .ref a), (0, .ref sc)], []) (n, h) cs ss (lw_G sc N xs Z0) := by
  refine sh_aload_n dc_Law_law_522 rfl rfl ?_
  refine sh_aload_n dc_Law_law_523 rfl rfl ?_
  refine sh_iload dc_Law_law_524 rfl ?_
  refine sh_iconst (v := 1) dc_Law_law_526 (by decide) ?_
  refine sh_iadd dc_Law_law_527 ?_
  refine sh_ialdS dc_Law_law_528 q1 ?_
  rw [v1]
  refine sh_aload_n dc_Law_law_529 rfl rfl ?_
  refine sh_iload dc_Law_law_530 rfl ?_
  refine sh_iconst (v := 2) dc_Law_law_532 (by decide) ?_
  refine sh_iadd dc_Law_law_533 ?_
  refine sh_ialdS dc_Law_law_534 q2 ?_
  rw [v2]
  refine sh_aload_n dc_Law_law_535 rfl rfl ?_
  refine sh_iload dc_Law_law_536 rfl ?_
  refine sh_iconst (v := 3) dc_Law_law_538 (by decide) ?_
  refine sh_iadd dc_Law_law_539 ?_
  refine sh_ialdS dc_Law_law_540 q3 ?_
  rw [v3]
  refine sh_if_eq (tgt := 548) dc_Law_law_541 (by decide) (fun z => absurd z h3) (fun _ => ?_)
  refine sh_iconst (v := 1) dc_Law_law_544 (by decide) ?_
  refine sh_goto_ (tgt := 549) dc_Law_law_545 (by decide) ?_
  refine sh_aload_n dc_Law_law_549 rfl rfl ?_
  refine sh_callQ (sh_statW (n := 5) (As := [.ref a, .int e1, .int e2, .int 1, .ref oa]) dc_Law_law_550 wd_754 ⟨by decide, by decide⟩ (by decide) (by decide +kernel) ln_Law_95 wd_753 wd_48 rfl rfl (Nat.le_of_ble_eq_true rfl)) (lt_signal_4 f0 mC) ⟨by decide, Nat.le_of_ble_eq_true rfl, by show cs + 6 ≤ room_1.cells; omega, by show ss + 36 ≤ room_1.slots; omega⟩ ?_
  intro n2 h2 eh
  have w2 : lw_W A1 mq B oa od K1 L1 I D yo yd h2 := by rw [eh]; exact w1
  refine sh_istore dc_Law_law_553 (by decide) ?_
  refine sh_aload_n dc_Law_law_555 rfl rfl ?_
  refine sh_aload_n dc_Law_law_556 rfl rfl ?_
  refine sh_iload dc_Law_law_557 rfl ?_
  refine sh_iconst (v := 1) dc_Law_law_559 (by decide) ?_
  refine sh_iadd dc_Law_law_560 ?_
  refine sh_ialdS dc_Law_law_561 q1 ?_
  rw [v1]
  refine sh_aload_n dc_Law_law_562 rfl rfl ?_
  refine sh_iload dc_Law_law_563 rfl ?_
  refine sh_iconst (v := 2) dc_Law_law_565 (by decide) ?_
  refine sh_iadd dc_Law_law_566 ?_
  refine sh_ialdS dc_Law_law_567 q2 ?_
  rw [v2]
  refine sh_aload_n dc_Law_law_568 rfl rfl ?_
  refine sh_iload dc_Law_law_569 rfl ?_
  refine sh_iconst (v := 3) dc_Law_law_571 (by decide) ?_
  refine sh_iadd dc_Law_law_572 ?_
  refine sh_ialdS dc_Law_law_573 q3 ?_
  rw [v3]
  refine sh_if_eq (tgt := 581) dc_Law_law_574 (by decide) (fun z => absurd z h3) (fun _ => ?_)
  refine sh_iconst (v := 1) dc_Law_law_577 (by decide) ?_
  refine sh_goto_ (tgt := 582) dc_Law_law_578 (by decide) ?_
  obtain ⟨h3, x1, g1, m1⟩ := hM n2 h2 h2 w2.2.1 sh_Fr.rf
  have w3 := lw_mod w2 x1 g1
  refine sh_callR (sh_virt (As := [.int e1, .int e2, .int 1]) dc_Law_law_582 lm_Mod_signal ln_Law_98 wd_1043 wd_1044 rfl rfl (Nat.le_of_ble_eq_true rfl) w2.2.1.1 rfl) m1 ⟨by decide, Nat.le_of_ble_eq_true rfl, by show cs+6 + 0 ≤ room_1.cells; omega, by show ss+36 + 0 ≤ room_1.slots; omega⟩ ?_
  refine sh_istore dc_Law_law_585 (by decide) ?_
  refine sh_aload_n dc_Law_law_587 rfl rfl ?_
  obtain ⟨h4, x2, g2, m2⟩ := (mx_Mod_thrown_1 (mq := mq) (A := B) (I := I') (D := D')) n2 h3 h3 w3.2.1 sh_Fr.rf
  have w4 := lw_mod w3 x2 g2
  refine sh_callR (sh_virt (As := []) dc_Law_law_588 lm_Mod_thrown ln_Law_74 wd_944 wd_945 rfl rfl (Nat.le_of_ble_eq_true rfl) w3.2.1.1 rfl) m2 ⟨by decide, Nat.le_of_ble_eq_true rfl, by show cs+6+0 + 0 ≤ room_1.cells; omega, by show ss+36+0 + 0 ≤ room_1.slots; omega⟩ ?_
  refine sh_iload dc_Law_law_591 rfl ?_
  refine sh_icmp_eq (tgt := 598) dc_Law_law_593 (by decide) (fun _ => ?_) (fun z => absurd e00 z)
  refine sh_iload dc_Law_law_598 rfl ?_
  refine sh_if_ne (tgt := 615) dc_Law_law_600 (by decide) (fun _ => ?_) (fun z => absurd z (by decide))
  refine sh_goto_ (tgt := 1050) dc_Law_law_615 (by decide) ?_
  refine sh_lvsub [2, 3, 4, 5, 6, 7] rfl ?_
  refine sh_widen (cs' := cs + 23) (ss' := ss + 116) (by show cs+6+0+0 ≤ cs + 23; omega) (by show ss+36+0+0 ≤ ss + 116; omega) ?_
  exact kk n2 h4 w4
theorem lc_interrupt_r {A1 : Nat → Nat} {mq : Nat} {B : Nat → Nat} {sc oa od a n n1 cs ss : Nat} {K1 I I' : sh_II} {L1 D D' : sh_DD} {fs : List Value} {yo : Int64} {yd : UInt64} {h h1 : sh_Hp} {Z0 : sh_Zt} {N : Nat} {xs : Nat → Int32} {i e1 : Int32} {v : Int32} (f0 : h a = some (false, 0, fs)) (q1 : vp_in (i + 1) N) (v1 : xs (i + 1).toNatClampNeg = e1) (w1 : lw_W A1 mq B oa od K1 L1 I D yo yd h1) (mC : sh_M md_Hall_interrupt [.ref a, .int e1] (n, h) (.inl (some (.int v), (n1, h1)))) (hM : sh_mM mq B md_Mod_interrupt [.ref mq, .int e1] I D (some (.int v)) I' D') (e00 : I' 0 0 = 0) (hcs : cs + 23 ≤ room_1.cells) (hss : ss + 116 ≤ room_1.slots) (kk : ∀ n' h', lw_W A1 mq B oa od K1 L1 I' D' v.toInt64 yd h' → sh_V md_Law_law (1050, [(5, .int i), (4, .ref od), (3, .ref oa), (2, .ref mq), (1, .ref a), (0, .ref sc)], []) (n', h') (cs + 23) (ss + 116) (lw_G sc N xs Z0)) : sh_V md_Law_law (618, [(5, .int i), (4, .ref od), (3, .ref oa), (2, .ref mq), (1, .ref a), (0, .ref sc)], []) (n, h) cs ss (lw_G sc N xs Z0) := by
  refine sh_aload_n dc_Law_law_618 rfl rfl ?_
  refine sh_aload_n dc_Law_law_619 rfl rfl ?_
  refine sh_iload dc_Law_law_620 rfl ?_
  refine sh_iconst (v := 1) dc_Law_law_622 (by decide) ?_
  refine sh_iadd dc_Law_law_623 ?_
  refine sh_ialdS dc_Law_law_624 q1 ?_
  rw [v1]
  refine sh_aload_n dc_Law_law_625 rfl rfl ?_
  refine sh_callQ (sh_statW (n := 3) (As := [.ref a, .int e1, .ref oa]) dc_Law_law_626 wd_772 ⟨by decide, by decide⟩ (by decide) (by decide +kernel) ln_Law_99 wd_771 wd_48 rfl rfl (Nat.le_of_ble_eq_true rfl)) (lr_interrupt f0 mC w1.2.2.1) ⟨by decide, Nat.le_of_ble_eq_true rfl, by show cs + 1 ≤ room_1.cells; omega, by show ss + 6 ≤ room_1.slots; omega⟩ ?_
  intro n2 h2 eh
  have w2 : lw_W A1 mq B oa od K1 L1 I D v.toInt64 yd h2 := by rw [eh]; exact lw_out w1
  refine sh_istore dc_Law_law_629 (by decide) ?_
  refine sh_aload_n dc_Law_law_631 rfl rfl ?_
  refine sh_aload_n dc_Law_law_632 rfl rfl ?_
  refine sh_iload dc_Law_law_633 rfl ?_
  refine sh_iconst (v := 1) dc_Law_law_635 (by decide) ?_
  refine sh_iadd dc_Law_law_636 ?_
  refine sh_ialdS dc_Law_law_637 q1 ?_
  rw [v1]
  obtain ⟨h3, x1, g1, m1⟩ := hM n2 h2 h2 w2.2.1 sh_Fr.rf
  have w3 := lw_mod w2 x1 g1
  refine sh_callR (sh_virt (As := [.int e1]) dc_Law_law_638 lm_Mod_interrupt ln_Law_102 wd_1047 wd_1048 rfl rfl (Nat.le_of_ble_eq_true rfl) w2.2.1.1 rfl) m1 ⟨by decide, Nat.le_of_ble_eq_true rfl, by show cs+1 + 0 ≤ room_1.cells; omega, by show ss+6 + 0 ≤ room_1.slots; omega⟩ ?_
  refine sh_istore dc_Law_law_641 (by decide) ?_
  refine sh_aload_n dc_Law_law_643 rfl rfl ?_
  obtain ⟨h4, x2, g2, m2⟩ := (mx_Mod_thrown_1 (mq := mq) (A := B) (I := I') (D := D')) n2 h3 h3 w3.2.1 sh_Fr.rf
  have w4 := lw_mod w3 x2 g2
  refine sh_callR (sh_virt (As := []) dc_Law_law_644 lm_Mod_thrown ln_Law_74 wd_944 wd_945 rfl rfl (Nat.le_of_ble_eq_true rfl) w3.2.1.1 rfl) m2 ⟨by decide, Nat.le_of_ble_eq_true rfl, by show cs+1+0 + 0 ≤ room_1.cells; omega, by show ss+6+0 + 0 ≤ room_1.slots; omega⟩ ?_
  refine sh_iload dc_Law_law_647 rfl ?_
  refine sh_icmp_eq (tgt := 654) dc_Law_law_649 (by decide) (fun _ => ?_) (fun z => absurd e00 z)
  refine sh_iload dc_Law_law_654 rfl ?_
  refine sh_if_ne (tgt := 671) dc_Law_law_656 (by decide) (fun z => absurd (by decide) z) (fun _ => ?_)
  refine sh_aload_n dc_Law_law_659 rfl rfl ?_
  refine sh_iconst (v := 0) dc_Law_law_660 (by decide) ?_
  refine sh_lald (i := 0) dc_Law_law_661 w4.2.2.1 rfl (by decide) rfl ?_
  refine sh_iload dc_Law_law_662 rfl ?_
  refine sh_i2l dc_Law_law_664 ?_
  refine sh_lcmp dc_Law_law_665 ?_
  refine sh_if_eq (tgt := 671) dc_Law_law_666 (by decide) (fun _ => ?_) (fun z => absurd (by decide) z)
  refine sh_goto_ (tgt := 1050) dc_Law_law_671 (by decide) ?_
  refine sh_lvsub [2, 3, 4, 5, 6, 7] rfl ?_
  refine sh_widen (cs' := cs + 23) (ss' := ss + 116) (by show cs+1+0+0 ≤ cs + 23; omega) (by show ss+6+0+0 ≤ ss + 116; omega) ?_
  exact kk n2 h4 w4
theorem lc_interrupt_t1 {A1 : Nat → Nat} {mq : Nat} {B : Nat → Nat} {sc oa od a n n1 cs ss : Nat} {K1 I I' : sh_II} {L1 D D' : sh_DD} {fs : List Value} {yo : Int64} {yd : UInt64} {h h1 : sh_Hp} {Z0 : sh_Zt} {N : Nat} {xs : Nat → Int32} {i e1 : Int32} {u : Int32} (f0 : h a = some (false, 0, fs)) (q1 : vp_in (i + 1) N) (v1 : xs (i + 1).toNatClampNeg = e1) (w1 : lw_W A1 mq B oa od K1 L1 I D yo yd h1) (mC : sh_M md_Hall_interrupt [.ref a, .int e1] (n, h) (.inr (1, h1))) (hM : sh_mM mq B md_Mod_interrupt [.ref mq, .int e1] I D (some (.int u)) I' D') (e00 : I' 0 0 = 1) (hcs : cs + 23 ≤ room_1.cells) (hss : ss + 116 ≤ room_1.slots) (kk : ∀ n' h', lw_W A1 mq B oa od K1 L1 I' D' yo yd h' → sh_V md_Law_law (1050, [(5, .int i), (4, .ref od), (3, .ref oa), (2, .ref mq), (1, .ref a), (0, .ref sc)], []) (n', h') (cs + 23) (ss + 116) (lw_G sc N xs Z0)) : sh_V md_Law_law (618, [(5, .int i), (4, .ref od), (3, .ref oa), (2, .ref mq), (1, .ref a), (0, .ref sc)], []) (n, h) cs ss (lw_G sc N xs Z0) := by
  refine sh_aload_n dc_Law_law_618 rfl rfl ?_
  refine sh_aload_n dc_Law_law_619 rfl rfl ?_
  refine sh_iload dc_Law_law_620 rfl ?_
  refine sh_iconst (v := 1) dc_Law_law_622 (by decide) ?_
  refine sh_iadd dc_Law_law_623 ?_
  refine sh_ialdS dc_Law_law_624 q1 ?_
  rw [v1]
  refine sh_aload_n dc_Law_law_625 rfl rfl ?_
  refine sh_callQ (sh_statW (n := 3) (As := [.ref a, .int e1, .ref oa]) dc_Law_law_626 wd_772 ⟨by decide, by decide⟩ (by decide) (by decide +kernel) ln_Law_99 wd_771 wd_48 rfl rfl (Nat.le_of_ble_eq_true rfl)) (lt_interrupt_1 f0 mC) ⟨by decide, Nat.le_of_ble_eq_true rfl, by show cs + 1 ≤ room_1.cells; omega, by show ss + 6 ≤ room_1.slots; omega⟩ ?_
  intro n2 h2 eh
  have w2 : lw_W A1 mq B oa od K1 L1 I D yo yd h2 := by rw [eh]; exact w1
  refine sh_istore dc_Law_law_629 (by decide) ?_
  refine sh_aload_n dc_Law_law_631 rfl rfl ?_
  refine sh_aload_n dc_Law_law_632 rfl rfl ?_
  refine sh_iload dc_Law_law_633 rfl ?_
  refine sh_iconst (v := 1) dc_Law_law_635 (by decide) ?_
  refine sh_iadd dc_Law_law_636 ?_
  refine sh_ialdS dc_Law_law_637 q1 ?_
  rw [v1]
  obtain ⟨h3, x1, g1, m1⟩ := hM n2 h2 h2 w2.2.1 sh_Fr.rf
  have w3 := lw_mod w2 x1 g1
  refine sh_callR (sh_virt (As := [.int e1]) dc_Law_law_638 lm_Mod_interrupt ln_Law_102 wd_1047 wd_1048 rfl rfl (Nat.le_of_ble_eq_true rfl) w2.2.1.1 rfl) m1 ⟨by decide, Nat.le_of_ble_eq_true rfl, by show cs+1 + 0 ≤ room_1.cells; omega, by show ss+6 + 0 ≤ room_1.slots; omega⟩ ?_
  refine sh_istore dc_Law_law_641 (by decide) ?_
  refine sh_aload_n dc_Law_law_643 rfl rfl ?_
  obtain ⟨h4, x2, g2, m2⟩ := (mx_Mod_thrown_1 (mq := mq) (A := B) (I := I') (D := D')) n2 h3 h3 w3.2.1 sh_Fr.rf
  have w4 := lw_mod w3 x2 g2
  refine sh_callR (sh_virt (As := []) dc_Law_law_644 lm_Mod_thrown ln_Law_74 wd_944 wd_945 rfl rfl (Nat.le_of_ble_eq_true rfl) w3.2.1.1 rfl) m2 ⟨by decide, Nat.le_of_ble_eq_true rfl, by show cs+1+0 + 0 ≤ room_1.cells; omega, by show ss+6+0 + 0 ≤ room_1.slots; omega⟩ ?_
  refine sh_iload dc_Law_law_647 rfl ?_
  refine sh_icmp_eq (tgt := 654) dc_Law_law_649 (by decide) (fun _ => ?_) (fun z => absurd e00 z)
  refine sh_iload dc_Law_law_654 rfl ?_
  refine sh_if_ne (tgt := 671) dc_Law_law_656 (by decide) (fun _ => ?_) (fun z => absurd z (by decide))
  refine sh_goto_ (tgt := 1050) dc_Law_law_671 (by decide) ?_
  refine sh_lvsub [2, 3, 4, 5, 6, 7] rfl ?_
  refine sh_widen (cs' := cs + 23) (ss' := ss + 116) (by show cs+1+0+0 ≤ cs + 23; omega) (by show ss+6+0+0 ≤ ss + 116; omega) ?_
  exact kk n2 h4 w4
theorem lc_tick_r {A1 : Nat → Nat} {mq : Nat} {B : Nat → Nat} {sc oa od a n n1 cs ss : Nat} {K1 I I' : sh_II} {L1 D D' : sh_DD} {fs : List Value} {yo : Int64} {yd : UInt64} {h h1 : sh_Hp} {Z0 : sh_Zt} {N : Nat} {xs : Nat → Int32} {i e1 : Int32} {v : Int32} (f0 : h a = some (false, 0, fs)) (q1 : vp_in (i + 1) N) (v1 : xs (i + 1).toNatClampNeg = e1) (w1 : lw_W A1 mq B oa od K1 L1 I D yo yd h1) (mC : sh_M md_Hall_tick [.ref a, .double (FP.dmul (FP.i2d e1) 4593671619917905920)] (n, h) (.inl (some (.int v), (n1, h1)))) (hM : sh_mM mq B md_Mod_tick [.ref mq, .double (FP.dmul (FP.i2d e1) 4593671619917905920)] I D (some (.int v)) I' D') (e00 : I' 0 0 = 0) (hcs : cs + 23 ≤ room_1.cells) (hss : ss + 116 ≤ room_1.slots) (kk : ∀ n' h', lw_W A1 mq B oa od K1 L1 I' D' v.toInt64 yd h' → sh_V md_Law_law (1050, [(5, .int i), (4, .ref od), (3, .ref oa), (2, .ref mq), (1, .ref a), (0, .ref sc)], []) (n', h') (cs + 23) (ss + 116) (lw_G sc N xs Z0)) : sh_V md_Law_law (674, [(5, .int i), (4, .ref od), (3, .ref oa), (2, .ref mq), (1, .ref a), (0, .ref sc)], []) (n, h) cs ss (lw_G sc N xs Z0) := by
  refine sh_aload_n dc_Law_law_674 rfl rfl ?_
  refine sh_aload_n dc_Law_law_675 rfl rfl ?_
  refine sh_iload dc_Law_law_676 rfl ?_
  refine sh_iconst (v := 1) dc_Law_law_678 (by decide) ?_
  refine sh_iadd dc_Law_law_679 ?_
  refine sh_ialdS dc_Law_law_680 q1 ?_
  rw [v1]
  refine sh_i2d dc_Law_law_681 ?_
  refine sh_ldc2d dc_Law_law_682 wd_1078 ?_
  refine sh_dmul dc_Law_law_685 (fp_eighth e1) ?_
  refine sh_aload_n dc_Law_law_686 rfl rfl ?_
  refine sh_callQ (sh_statW (n := 3) (As := [.ref a, .double (FP.dmul (FP.i2d e1) 4593671619917905920), .ref oa]) dc_Law_law_687 wd_784 ⟨by decide, by decide⟩ (by decide) (by decide +kernel) ln_Law_103 wd_783 wd_48 rfl rfl (Nat.le_of_ble_eq_true rfl)) (lr_tick f0 mC w1.2.2.1) ⟨by decide, Nat.le_of_ble_eq_true rfl, by show cs + 1 ≤ room_1.cells; omega, by show ss + 6 ≤ room_1.slots; omega⟩ ?_
  intro n2 h2 eh
  have w2 : lw_W A1 mq B oa od K1 L1 I D v.toInt64 yd h2 := by rw [eh]; exact lw_out w1
  refine sh_istore dc_Law_law_690 (by decide) ?_
  refine sh_aload_n dc_Law_law_692 rfl rfl ?_
  refine sh_aload_n dc_Law_law_693 rfl rfl ?_
  refine sh_iload dc_Law_law_694 rfl ?_
  refine sh_iconst (v := 1) dc_Law_law_696 (by decide) ?_
  refine sh_iadd dc_Law_law_697 ?_
  refine sh_ialdS dc_Law_law_698 q1 ?_
  rw [v1]
  refine sh_i2d dc_Law_law_699 ?_
  refine sh_ldc2d dc_Law_law_700 wd_1078 ?_
  refine sh_dmul dc_Law_law_703 (fp_eighth e1) ?_
  obtain ⟨h3, x1, g1, m1⟩ := hM n2 h2 h2 w2.2.1 sh_Fr.rf
  have w3 := lw_mod w2 x1 g1
  refine sh_callR (sh_virt (As := [.double (FP.dmul (FP.i2d e1) 4593671619917905920)]) dc_Law_law_704 lm_Mod_tick ln_Law_106 wd_1051 wd_1052 rfl rfl (Nat.le_of_ble_eq_true rfl) w2.2.1.1 rfl) m1 ⟨by decide, Nat.le_of_ble_eq_true rfl, by show cs+1 + 0 ≤ room_1.cells; omega, by show ss+6 + 0 ≤ room_1.slots; omega⟩ ?_
  refine sh_istore dc_Law_law_707 (by decide) ?_
  refine sh_aload_n dc_Law_law_709 rfl rfl ?_
  obtain ⟨h4, x2, g2, m2⟩ := (mx_Mod_thrown_1 (mq := mq) (A := B) (I := I') (D := D')) n2 h3 h3 w3.2.1 sh_Fr.rf
  have w4 := lw_mod w3 x2 g2
  refine sh_callR (sh_virt (As := []) dc_Law_law_710 lm_Mod_thrown ln_Law_74 wd_944 wd_945 rfl rfl (Nat.le_of_ble_eq_true rfl) w3.2.1.1 rfl) m2 ⟨by decide, Nat.le_of_ble_eq_true rfl, by show cs+1+0 + 0 ≤ room_1.cells; omega, by show ss+6+0 + 0 ≤ room_1.slots; omega⟩ ?_
  refine sh_iload dc_Law_law_713 rfl ?_
  refine sh_icmp_eq (tgt := 720) dc_Law_law_715 (by decide) (fun _ => ?_) (fun z => absurd e00 z)
  refine sh_iload dc_Law_law_720 rfl ?_
  refine sh_if_ne (tgt := 737) dc_Law_law_722 (by decide) (fun z => absurd (by decide) z) (fun _ => ?_)
  refine sh_aload_n dc_Law_law_725 rfl rfl ?_
  refine sh_iconst (v := 0) dc_Law_law_726 (by decide) ?_
  refine sh_lald (i := 0) dc_Law_law_727 w4.2.2.1 rfl (by decide) rfl ?_
  refine sh_iload dc_Law_law_728 rfl ?_
  refine sh_i2l dc_Law_law_730 ?_
  refine sh_lcmp dc_Law_law_731 ?_
  refine sh_if_eq (tgt := 737) dc_Law_law_732 (by decide) (fun _ => ?_) (fun z => absurd (by decide) z)
  refine sh_goto_ (tgt := 1050) dc_Law_law_737 (by decide) ?_
  refine sh_lvsub [2, 3, 4, 5, 6, 7] rfl ?_
  refine sh_widen (cs' := cs + 23) (ss' := ss + 116) (by show cs+1+0+0 ≤ cs + 23; omega) (by show ss+6+0+0 ≤ ss + 116; omega) ?_
  exact kk n2 h4 w4
theorem lc_tick_t1 {A1 : Nat → Nat} {mq : Nat} {B : Nat → Nat} {sc oa od a n n1 cs ss : Nat} {K1 I I' : sh_II} {L1 D D' : sh_DD} {fs : List Value} {yo : Int64} {yd : UInt64} {h h1 : sh_Hp} {Z0 : sh_Zt} {N : Nat} {xs : Nat → Int32} {i e1 : Int32} {u : Int32} (f0 : h a = some (false, 0, fs)) (q1 : vp_in (i + 1) N) (v1 : xs (i + 1).toNatClampNeg = e1) (w1 : lw_W A1 mq B oa od K1 L1 I D yo yd h1) (mC : sh_M md_Hall_tick [.ref a, .double (FP.dmul (FP.i2d e1) 4593671619917905920)] (n, h) (.inr (1, h1))) (hM : sh_mM mq B md_Mod_tick [.ref mq, .double (FP.dmul (FP.i2d e1) 4593671619917905920)] I D (some (.int u)) I' D') (e00 : I' 0 0 = 1) (hcs : cs + 23 ≤ room_1.cells) (hss : ss + 116 ≤ room_1.slots) (kk : ∀ n' h', lw_W A1 mq B oa od K1 L1 I' D' yo yd h' → sh_V md_Law_law (1050, [(5, .int i), (4, .ref od), (3, .ref oa), (2, .ref mq), (1, .ref a), (0, .ref sc)], []) (n', h') (cs + 23) (ss + 116) (lw_G sc N xs Z0)) : sh_V md_Law_law (674, [(5, .int i), (4, .ref od), (3, .ref oa), (2, .ref mq), (1, .ref a), (0, .ref sc)], []) (n, h) cs ss (lw_G sc N xs Z0) := by
  refine sh_aload_n dc_Law_law_674 rfl rfl ?_
  refine sh_aload_n dc_Law_law_675 rfl rfl ?_
  refine sh_iload dc_Law_law_676 rfl ?_
  refine sh_iconst (v := 1) dc_Law_law_678 (by decide) ?_
  refine sh_iadd dc_Law_law_679 ?_
  refine sh_ialdS dc_Law_law_680 q1 ?_
  rw [v1]
  refine sh_i2d dc_Law_law_681 ?_
  refine sh_ldc2d dc_Law_law_682 wd_1078 ?_
  refine sh_dmul dc_Law_law_685 (fp_eighth e1) ?_
  refine sh_aload_n dc_Law_law_686 rfl rfl ?_
  refine sh_callQ (sh_statW (n := 3) (As := [.ref a, .double (FP.dmul (FP.i2d e1) 4593671619917905920), .ref oa]) dc_Law_law_687 wd_784 ⟨by decide, by decide⟩ (by decide) (by decide +kernel) ln_Law_103 wd_783 wd_48 rfl rfl (Nat.le_of_ble_eq_true rfl)) (lt_tick_1 f0 mC) ⟨by decide, Nat.le_of_ble_eq_true rfl, by show cs + 1 ≤ room_1.cells; omega, by show ss + 6 ≤ room_1.slots; omega⟩ ?_
  intro n2 h2 eh
  have w2 : lw_W A1 mq B oa od K1 L1 I D yo yd h2 := by rw [eh]; exact w1
  refine sh_istore dc_Law_law_690 (by decide) ?_
  refine sh_aload_n dc_Law_law_692 rfl rfl ?_
  refine sh_aload_n dc_Law_law_693 rfl rfl ?_
  refine sh_iload dc_Law_law_694 rfl ?_
  refine sh_iconst (v := 1) dc_Law_law_696 (by decide) ?_
  refine sh_iadd dc_Law_law_697 ?_
  refine sh_ialdS dc_Law_law_698 q1 ?_
  rw [v1]
  refine sh_i2d dc_Law_law_699 ?_
  refine sh_ldc2d dc_Law_law_700 wd_1078 ?_
  refine sh_dmul dc_Law_law_703 (fp_eighth e1) ?_
  obtain ⟨h3, x1, g1, m1⟩ := hM n2 h2 h2 w2.2.1 sh_Fr.rf
  have w3 := lw_mod w2 x1 g1
  refine sh_callR (sh_virt (As := [.double (FP.dmul (FP.i2d e1) 4593671619917905920)]) dc_Law_law_704 lm_Mod_tick ln_Law_106 wd_1051 wd_1052 rfl rfl (Nat.le_of_ble_eq_true rfl) w2.2.1.1 rfl) m1 ⟨by decide, Nat.le_of_ble_eq_true rfl, by show cs+1 + 0 ≤ room_1.cells; omega, by show ss+6 + 0 ≤ room_1.slots; omega⟩ ?_
  refine sh_istore dc_Law_law_707 (by decide) ?_
  refine sh_aload_n dc_Law_law_709 rfl rfl ?_
  obtain ⟨h4, x2, g2, m2⟩ := (mx_Mod_thrown_1 (mq := mq) (A := B) (I := I') (D := D')) n2 h3 h3 w3.2.1 sh_Fr.rf
  have w4 := lw_mod w3 x2 g2
  refine sh_callR (sh_virt (As := []) dc_Law_law_710 lm_Mod_thrown ln_Law_74 wd_944 wd_945 rfl rfl (Nat.le_of_ble_eq_true rfl) w3.2.1.1 rfl) m2 ⟨by decide, Nat.le_of_ble_eq_true rfl, by show cs+1+0 + 0 ≤ room_1.cells; omega, by show ss+6+0 + 0 ≤ room_1.slots; omega⟩ ?_
  refine sh_iload dc_Law_law_713 rfl ?_
  refine sh_icmp_eq (tgt := 720) dc_Law_law_715 (by decide) (fun _ => ?_) (fun z => absurd e00 z)
  refine sh_iload dc_Law_law_720 rfl ?_
  refine sh_if_ne (tgt := 737) dc_Law_law_722 (by decide) (fun _ => ?_) (fun z => absurd z (by decide))
  refine sh_goto_ (tgt := 1050) dc_Law_law_737 (by decide) ?_
  refine sh_lvsub [2, 3, 4, 5, 6, 7] rfl ?_
  refine sh_widen (cs' := cs + 23) (ss' := ss + 116) (by show cs+1+0+0 ≤ cs + 23; omega) (by show ss+6+0+0 ≤ ss + 116; omega) ?_
  exact kk n2 h4 w4
theorem lc_policy_r {A1 : Nat → Nat} {mq : Nat} {B : Nat → Nat} {sc oa od a n n1 cs ss : Nat} {K1 I I' : sh_II} {L1 D D' : sh_DD} {fs : List Value} {yo : Int64} {yd : UInt64} {h h1 : sh_Hp} {Z0 : sh_Zt} {N : Nat} {xs : Nat → Int32} {i e1 : Int32} {v : Int32} (f0 : h a = some (false, 0, fs)) (q1 : vp_in (i + 1) N) (v1 : xs (i + 1).toNatClampNeg = e1) (w1 : lw_W A1 mq B oa od K1 L1 I D yo yd h1) (mC : sh_M md_Hall_policy [.ref a, .int e1] (n, h) (.inl (some (.int v), (n1, h1)))) (hM : sh_mM mq B md_Mod_policy [.ref mq, .int e1] I D (some (.int v)) I' D') (e00 : I' 0 0 = 0) (hcs : cs + 23 ≤ room_1.cells) (hss : ss + 116 ≤ room_1.slots) (kk : ∀ n' h', lw_W A1 mq B oa od K1 L1 I' D' v.toInt64 yd h' → sh_V md_Law_law (1050, [(5, .int i), (4, .ref od), (3, .ref oa), (2, .ref mq), (1, .ref a), (0, .ref sc)], []) (n', h') (cs + 23) (ss + 116) (lw_G sc N xs Z0)) : sh_V md_Law_law (740, [(5, .int i), (4, .ref od), (3, .ref oa), (2, .ref mq), (1, .ref a), (0, .ref sc)], []) (n, h) cs ss (lw_G sc N xs Z0) := by
  refine sh_aload_n dc_Law_law_740 rfl rfl ?_
  refine sh_aload_n dc_Law_law_741 rfl rfl ?_
  refine sh_iload dc_Law_law_742 rfl ?_
  refine sh_iconst (v := 1) dc_Law_law_744 (by decide) ?_
  refine sh_iadd dc_Law_law_745 ?_
  refine sh_ialdS dc_Law_law_746 q1 ?_
  rw [v1]
  refine sh_aload_n dc_Law_law_747 rfl rfl ?_
  refine sh_callQ (sh_statW (n := 3) (As := [.ref a, .int e1, .ref oa]) dc_Law_law_748 wd_795 ⟨by decide, by decide⟩ (by decide) (by decide +kernel) ln_Law_107 wd_794 wd_48 rfl rfl (Nat.le_of_ble_eq_true rfl)) (lr_policy f0 mC w1.2.2.1) ⟨by decide, Nat.le_of_ble_eq_true rfl, by show cs + 1 ≤ room_1.cells; omega, by show ss + 6 ≤ room_1.slots; omega⟩ ?_
  intro n2 h2 eh
  have w2 : lw_W A1 mq B oa od K1 L1 I D v.toInt64 yd h2 := by rw [eh]; exact lw_out w1
  refine sh_istore dc_Law_law_751 (by decide) ?_
  refine sh_aload_n dc_Law_law_753 rfl rfl ?_
  refine sh_aload_n dc_Law_law_754 rfl rfl ?_
  refine sh_iload dc_Law_law_755 rfl ?_
  refine sh_iconst (v := 1) dc_Law_law_757 (by decide) ?_
  refine sh_iadd dc_Law_law_758 ?_
  refine sh_ialdS dc_Law_law_759 q1 ?_
  rw [v1]
  obtain ⟨h3, x1, g1, m1⟩ := hM n2 h2 h2 w2.2.1 sh_Fr.rf
  have w3 := lw_mod w2 x1 g1
  refine sh_callR (sh_virt (As := [.int e1]) dc_Law_law_760 lm_Mod_policy ln_Law_109 wd_1059 wd_1060 rfl rfl (Nat.le_of_ble_eq_true rfl) w2.2.1.1 rfl) m1 ⟨by decide, Nat.le_of_ble_eq_true rfl, by show cs+1 + 0 ≤ room_1.cells; omega, by show ss+6 + 0 ≤ room_1.slots; omega⟩ ?_
  refine sh_istore dc_Law_law_763 (by decide) ?_
  refine sh_aload_n dc_Law_law_765 rfl rfl ?_
  obtain ⟨h4, x2, g2, m2⟩ := (mx_Mod_thrown_1 (mq := mq) (A := B) (I := I') (D := D')) n2 h3 h3 w3.2.1 sh_Fr.rf
  have w4 := lw_mod w3 x2 g2
  refine sh_callR (sh_virt (As := []) dc_Law_law_766 lm_Mod_thrown ln_Law_74 wd_944 wd_945 rfl rfl (Nat.le_of_ble_eq_true rfl) w3.2.1.1 rfl) m2 ⟨by decide, Nat.le_of_ble_eq_true rfl, by show cs+1+0 + 0 ≤ room_1.cells; omega, by show ss+6+0 + 0 ≤ room_1.slots; omega⟩ ?_
  refine sh_iload dc_Law_law_769 rfl ?_
  refine sh_icmp_eq (tgt := 776) dc_Law_law_771 (by decide) (fun _ => ?_) (fun z => absurd e00 z)
  refine sh_iload dc_Law_law_776 rfl ?_
  refine sh_if_ne (tgt := 793) dc_Law_law_778 (by decide) (fun z => absurd (by decide) z) (fun _ => ?_)
  refine sh_aload_n dc_Law_law_781 rfl rfl ?_
  refine sh_iconst (v := 0) dc_Law_law_782 (by decide) ?_
  refine sh_lald (i := 0) dc_Law_law_783 w4.2.2.1 rfl (by decide) rfl ?_
  refine sh_iload dc_Law_law_784 rfl ?_
  refine sh_i2l dc_Law_law_786 ?_
  refine sh_lcmp dc_Law_law_787 ?_
  refine sh_if_eq (tgt := 793) dc_Law_law_788 (by decide) (fun _ => ?_) (fun z => absurd (by decide) z)
  refine sh_goto_ (tgt := 1050) dc_Law_law_793 (by decide) ?_
  refine sh_lvsub [2, 3, 4, 5, 6, 7] rfl ?_
  refine sh_widen (cs' := cs + 23) (ss' := ss + 116) (by show cs+1+0+0 ≤ cs + 23; omega) (by show ss+6+0+0 ≤ ss + 116; omega) ?_
  exact kk n2 h4 w4
theorem lc_policy_t1 {A1 : Nat → Nat} {mq : Nat} {B : Nat → Nat} {sc oa od a n n1 cs ss : Nat} {K1 I I' : sh_II} {L1 D D' : sh_DD} {fs : List Value} {yo : Int64} {yd : UInt64} {h h1 : sh_Hp} {Z0 : sh_Zt} {N : Nat} {xs : Nat → Int32} {i e1 : Int32} {u : Int32} (f0 : h a = some (false, 0, fs)) (q1 : vp_in (i + 1) N) (v1 : xs (i + 1).toNatClampNeg = e1) (w1 : lw_W A1 mq B oa od K1 L1 I D yo yd h1) (mC : sh_M md_Hall_policy [.ref a, .int e1] (n, h) (.inr (1, h1))) (hM : sh_mM mq B md_Mod_policy [.ref mq, .int e1] I D (some (.int u)) I' D') (e00 : I' 0 0 = 1) (hcs : cs + 23 ≤ room_1.cells) (hss : ss + 116 ≤ room_1.slots) (kk : ∀ n' h', lw_W A1 mq B oa od K1 L1 I' D' yo yd h' → sh_V md_Law_law (1050, [(5, .int i), (4, .ref od), (3, .ref oa), (2, .ref mq), (1, .ref a), (0, .ref sc)], []) (n', h') (cs + 23) (ss + 116) (lw_G sc N xs Z0)) : sh_V md_Law_law (740, [(5, .int i), (4, .ref od), (3, .ref oa), (2, .ref mq), (1, .ref a), (0, .ref sc)], []) (n, h) cs ss (lw_G sc N xs Z0) := by
  refine sh_aload_n dc_Law_law_740 rfl rfl ?_
  refine sh_aload_n dc_Law_law_741 rfl rfl ?_
  refine sh_iload dc_Law_law_742 rfl ?_
  refine sh_iconst (v := 1) dc_Law_law_744 (by decide) ?_
  refine sh_iadd dc_Law_law_745 ?_
  refine sh_ialdS dc_Law_law_746 q1 ?_
  rw [v1]
  refine sh_aload_n dc_Law_law_747 rfl rfl ?_
  refine sh_callQ (sh_statW (n := 3) (As := [.ref a, .int e1, .ref oa]) dc_Law_law_748 wd_795 ⟨by decide, by decide⟩ (by decide) (by decide +kernel) ln_Law_107 wd_794 wd_48 rfl rfl (Nat.le_of_ble_eq_true rfl)) (lt_policy_1 f0 mC) ⟨by decide, Nat.le_of_ble_eq_true rfl, by show cs + 1 ≤ room_1.cells; omega, by show ss + 6 ≤ room_1.slots; omega⟩ ?_
  intro n2 h2 eh
  have w2 : lw_W A1 mq B oa od K1 L1 I D yo yd h2 := by rw [eh]; exact w1
  refine sh_istore dc_Law_law_751 (by decide) ?_
  refine sh_aload_n dc_Law_law_753 rfl rfl ?_
  refine sh_aload_n dc_Law_law_754 rfl rfl ?_
  refine sh_iload dc_Law_law_755 rfl ?_
  refine sh_iconst (v := 1) dc_Law_law_757 (by decide) ?_
  refine sh_iadd dc_Law_law_758 ?_
  refine sh_ialdS dc_Law_law_759 q1 ?_
  rw [v1]
  obtain ⟨h3, x1, g1, m1⟩ := hM n2 h2 h2 w2.2.1 sh_Fr.rf
  have w3 := lw_mod w2 x1 g1
  refine sh_callR (sh_virt (As := [.int e1]) dc_Law_law_760 lm_Mod_policy ln_Law_109 wd_1059 wd_1060 rfl rfl (Nat.le_of_ble_eq_true rfl) w2.2.1.1 rfl) m1 ⟨by decide, Nat.le_of_ble_eq_true rfl, by show cs+1 + 0 ≤ room_1.cells; omega, by show ss+6 + 0 ≤ room_1.slots; omega⟩ ?_
  refine sh_istore dc_Law_law_763 (by decide) ?_
  refine sh_aload_n dc_Law_law_765 rfl rfl ?_
  obtain ⟨h4, x2, g2, m2⟩ := (mx_Mod_thrown_1 (mq := mq) (A := B) (I := I') (D := D')) n2 h3 h3 w3.2.1 sh_Fr.rf
  have w4 := lw_mod w3 x2 g2
  refine sh_callR (sh_virt (As := []) dc_Law_law_766 lm_Mod_thrown ln_Law_74 wd_944 wd_945 rfl rfl (Nat.le_of_ble_eq_true rfl) w3.2.1.1 rfl) m2 ⟨by decide, Nat.le_of_ble_eq_true rfl, by show cs+1+0 + 0 ≤ room_1.cells; omega, by show ss+6+0 + 0 ≤ room_1.slots; omega⟩ ?_
  refine sh_iload dc_Law_law_769 rfl ?_
  refine sh_icmp_eq (tgt := 776) dc_Law_law_771 (by decide) (fun _ => ?_) (fun z => absurd e00 z)
  refine sh_iload dc_Law_law_776 rfl ?_
  refine sh_if_ne (tgt := 793) dc_Law_law_778 (by decide) (fun _ => ?_) (fun z => absurd z (by decide))
  refine sh_goto_ (tgt := 1050) dc_Law_law_793 (by decide) ?_
  refine sh_lvsub [2, 3, 4, 5, 6, 7] rfl ?_
  refine sh_widen (cs' := cs + 23) (ss' := ss + 116) (by show cs+1+0+0 ≤ cs + 23; omega) (by show ss+6+0+0 ≤ ss + 116; omega) ?_
  exact kk n2 h4 w4
theorem lc_thread_r {A1 : Nat → Nat} {mq : Nat} {B : Nat → Nat} {sc oa od a n n1 cs ss : Nat} {K1 I I' : sh_II} {L1 D D' : sh_DD} {fs : List Value} {yo : Int64} {yd : UInt64} {h h1 : sh_Hp} {Z0 : sh_Zt} {N : Nat} {xs : Nat → Int32} {i e1 e2 : Int32} {v : Int32} (f0 : h a = some (false, 0, fs)) (q1 : vp_in (i + 1) N) (v1 : xs (i + 1).toNatClampNeg = e1) (q2 : vp_in (i + 2) N) (v2 : xs (i + 2).toNatClampNeg = e2) (w1 : lw_W A1 mq B oa od K1 L1 I D yo yd h1) (mC : sh_M md_Hall_thread [.ref a, .int e1, .int e2] (n, h) (.inl (some (.int v), (n1, h1)))) (hM : sh_mM mq B md_Mod_thread [.ref mq, .int e1, .int e2] I D (some (.int v)) I' D') (e00 : I' 0 0 = 0) (hcs : cs + 23 ≤ room_1.cells) (hss : ss + 116 ≤ room_1.slots) (kk : ∀ n' h', lw_W A1 mq B oa od K1 L1 I' D' v.toInt64 yd h' → sh_V md_Law_law (1050, [(5, .int i), (4, .ref od), (3, .ref oa), (2, .ref mq), (1, .ref a), (0, .ref sc)], []) (n', h') (cs + 23) (ss + 116) (lw_G sc N xs Z0)) : sh_V md_Law_law (796, [(5, .int i), (4, .ref od), (3, .ref oa), (2, .ref mq), (1, .ref a), (0, .ref sc)], []) (n, h) cs ss (lw_G sc N xs Z0) := by
  refine sh_aload_n dc_Law_law_796 rfl rfl ?_
  refine sh_aload_n dc_Law_law_797 rfl rfl ?_
  refine sh_iload dc_Law_law_798 rfl ?_
  refine sh_iconst (v := 1) dc_Law_law_800 (by decide) ?_
  refine sh_iadd dc_Law_law_801 ?_
  refine sh_ialdS dc_Law_law_802 q1 ?_
  rw [v1]
  refine sh_aload_n dc_Law_law_803 rfl rfl ?_
  refine sh_iload dc_Law_law_804 rfl ?_
  refine sh_iconst (v := 2) dc_Law_law_806 (by decide) ?_
  refine sh_iadd dc_Law_law_807 ?_
  refine sh_ialdS dc_Law_law_808 q2 ?_
  rw [v2]
  refine sh_aload_n dc_Law_law_809 rfl rfl ?_
  refine sh_callQ (sh_statW (n := 4) (As := [.ref a, .int e1, .int e2, .ref oa]) dc_Law_law_810 wd_802 ⟨by decide, by decide⟩ (by decide) (by decide +kernel) ln_Law_110 wd_801 wd_48 rfl rfl (Nat.le_of_ble_eq_true rfl)) (lr_thread f0 mC w1.2.2.1) ⟨by decide, Nat.le_of_ble_eq_true rfl, by show cs + 2 ≤ room_1.cells; omega, by show ss + 12 ≤ room_1.slots; omega⟩ ?_
  intro n2 h2 eh
  have w2 : lw_W A1 mq B oa od K1 L1 I D v.toInt64 yd h2 := by rw [eh]; exact lw_out w1
  refine sh_istore dc_Law_law_813 (by decide) ?_
  refine sh_aload_n dc_Law_law_815 rfl rfl ?_
  refine sh_aload_n dc_Law_law_816 rfl rfl ?_
  refine sh_iload dc_Law_law_817 rfl ?_
  refine sh_iconst (v := 1) dc_Law_law_819 (by decide) ?_
  refine sh_iadd dc_Law_law_820 ?_
  refine sh_ialdS dc_Law_law_821 q1 ?_
  rw [v1]
  refine sh_aload_n dc_Law_law_822 rfl rfl ?_
  refine sh_iload dc_Law_law_823 rfl ?_
  refine sh_iconst (v := 2) dc_Law_law_825 (by decide) ?_
  refine sh_iadd dc_Law_law_826 ?_
  refine sh_ialdS dc_Law_law_827 q2 ?_
  rw [v2]
  obtain ⟨h3, x1, g1, m1⟩ := hM n2 h2 h2 w2.2.1 sh_Fr.rf
  have w3 := lw_mod w2 x1 g1
  refine sh_callR (sh_virt (As := [.int e1, .int e2]) dc_Law_law_828 lm_Mod_thread ln_Law_113 wd_1063 wd_1064 rfl rfl (Nat.le_of_ble_eq_true rfl) w2.2.1.1 rfl) m1 ⟨by decide, Nat.le_of_ble_eq_true rfl, by show cs+2 + 0 ≤ room_1.cells; omega, by show ss+12 + 0 ≤ room_1.slots; omega⟩ ?_
  refine sh_istore dc_Law_law_831 (by decide) ?_
  refine sh_aload_n dc_Law_law_833 rfl rfl ?_
  obtain ⟨h4, x2, g2, m2⟩ := (mx_Mod_thrown_1 (mq := mq) (A := B) (I := I') (D := D')) n2 h3 h3 w3.2.1 sh_Fr.rf
  have w4 := lw_mod w3 x2 g2
  refine sh_callR (sh_virt (As := []) dc_Law_law_834 lm_Mod_thrown ln_Law_74 wd_944 wd_945 rfl rfl (Nat.le_of_ble_eq_true rfl) w3.2.1.1 rfl) m2 ⟨by decide, Nat.le_of_ble_eq_true rfl, by show cs+2+0 + 0 ≤ room_1.cells; omega, by show ss+12+0 + 0 ≤ room_1.slots; omega⟩ ?_
  refine sh_iload dc_Law_law_837 rfl ?_
  refine sh_icmp_eq (tgt := 844) dc_Law_law_839 (by decide) (fun _ => ?_) (fun z => absurd e00 z)
  refine sh_iload dc_Law_law_844 rfl ?_
  refine sh_if_ne (tgt := 861) dc_Law_law_846 (by decide) (fun z => absurd (by decide) z) (fun _ => ?_)
  refine sh_aload_n dc_Law_law_849 rfl rfl ?_
  refine sh_iconst (v := 0) dc_Law_law_850 (by decide) ?_
  refine sh_lald (i := 0) dc_Law_law_851 w4.2.2.1 rfl (by decide) rfl ?_
  refine sh_iload dc_Law_law_852 rfl ?_
  refine sh_i2l dc_Law_law_854 ?_
  refine sh_lcmp dc_Law_law_855 ?_
  refine sh_if_eq (tgt := 861) dc_Law_law_856 (by decide) (fun _ => ?_) (fun z => absurd (by decide) z)
  refine sh_goto_ (tgt := 1050) dc_Law_law_861 (by decide) ?_
  refine sh_lvsub [2, 3, 4, 5, 6, 7] rfl ?_
  refine sh_widen (cs' := cs + 23) (ss' := ss + 116) (by show cs+2+0+0 ≤ cs + 23; omega) (by show ss+12+0+0 ≤ ss + 116; omega) ?_
  exact kk n2 h4 w4
theorem lc_thread_t1 {A1 : Nat → Nat} {mq : Nat} {B : Nat → Nat} {sc oa od a n n1 cs ss : Nat} {K1 I I' : sh_II} {L1 D D' : sh_DD} {fs : List Value} {yo : Int64} {yd : UInt64} {h h1 : sh_Hp} {Z0 : sh_Zt} {N : Nat} {xs : Nat → Int32} {i e1 e2 : Int32} {u : Int32} (f0 : h a = some (false, 0, fs)) (q1 : vp_in (i + 1) N) (v1 : xs (i + 1).toNatClampNeg = e1) (q2 : vp_in (i + 2) N) (v2 : xs (i + 2).toNatClampNeg = e2) (w1 : lw_W A1 mq B oa od K1 L1 I D yo yd h1) (mC : sh_M md_Hall_thread [.ref a, .int e1, .int e2] (n, h) (.inr (1, h1))) (hM : sh_mM mq B md_Mod_thread [.ref mq, .int e1, .int e2] I D (some (.int u)) I' D') (e00 : I' 0 0 = 1) (hcs : cs + 23 ≤ room_1.cells) (hss : ss + 116 ≤ room_1.slots) (kk : ∀ n' h', lw_W A1 mq B oa od K1 L1 I' D' yo yd h' → sh_V md_Law_law (1050, [(5, .int i), (4, .ref od), (3, .ref oa), (2, .ref mq), (1, .ref a), (0, .ref sc)], []) (n', h') (cs + 23) (ss + 116) (lw_G sc N xs Z0)) : sh_V md_Law_law (796, [(5, .int i), (4, .ref od), (3, .ref oa), (2, .ref mq), (1, .ref a), (0, .ref sc)], []) (n, h) cs ss (lw_G sc N xs Z0) := by
  refine sh_aload_n dc_Law_law_796 rfl rfl ?_
  refine sh_aload_n dc_Law_law_797 rfl rfl ?_
  refine sh_iload dc_Law_law_798 rfl ?_
  refine sh_iconst (v := 1) dc_Law_law_800 (by decide) ?_
  refine sh_iadd dc_Law_law_801 ?_
  refine sh_ialdS dc_Law_law_802 q1 ?_
  rw [v1]
  refine sh_aload_n dc_Law_law_803 rfl rfl ?_
  refine sh_iload dc_Law_law_804 rfl ?_
  refine sh_iconst (v := 2) dc_Law_law_806 (by decide) ?_
  refine sh_iadd dc_Law_law_807 ?_
  refine sh_ialdS dc_Law_law_808 q2 ?_
  rw [v2]
  refine sh_aload_n dc_Law_law_809 rfl rfl ?_
  refine sh_callQ (sh_statW (n := 4) (As := [.ref a, .int e1, .int e2, .ref oa]) dc_Law_law_810 wd_802 ⟨by decide, by decide⟩ (by decide) (by decide +kernel) ln_Law_110 wd_801 wd_48 rfl rfl (Nat.le_of_ble_eq_true rfl)) (lt_thread_1 f0 mC) ⟨by decide, Nat.le_of_ble_eq_true rfl, by show cs + 2 ≤ room_1.cells; omega, by show ss + 12 ≤ room_1.slots; omega⟩ ?_
  intro n2 h2 eh
  have w2 : lw_W A1 mq B oa od K1 L1 I D yo yd h2 := by rw [eh]; exact w1
  refine sh_istore dc_Law_law_813 (by decide) ?_
  refine sh_aload_n dc_Law_law_815 rfl rfl ?_
  refine sh_aload_n dc_Law_law_816 rfl rfl ?_
  refine sh_iload dc_Law_law_817 rfl ?_
  refine sh_iconst (v := 1) dc_Law_law_819 (by decide) ?_
  refine sh_iadd dc_Law_law_820 ?_
  refine sh_ialdS dc_Law_law_821 q1 ?_
  rw [v1]
  refine sh_aload_n dc_Law_law_822 rfl rfl ?_
  refine sh_iload dc_Law_law_823 rfl ?_
  refine sh_iconst (v := 2) dc_Law_law_825 (by decide) ?_
  refine sh_iadd dc_Law_law_826 ?_
  refine sh_ialdS dc_Law_law_827 q2 ?_
  rw [v2]
  obtain ⟨h3, x1, g1, m1⟩ := hM n2 h2 h2 w2.2.1 sh_Fr.rf
  have w3 := lw_mod w2 x1 g1
  refine sh_callR (sh_virt (As := [.int e1, .int e2]) dc_Law_law_828 lm_Mod_thread ln_Law_113 wd_1063 wd_1064 rfl rfl (Nat.le_of_ble_eq_true rfl) w2.2.1.1 rfl) m1 ⟨by decide, Nat.le_of_ble_eq_true rfl, by show cs+2 + 0 ≤ room_1.cells; omega, by show ss+12 + 0 ≤ room_1.slots; omega⟩ ?_
  refine sh_istore dc_Law_law_831 (by decide) ?_
  refine sh_aload_n dc_Law_law_833 rfl rfl ?_
  obtain ⟨h4, x2, g2, m2⟩ := (mx_Mod_thrown_1 (mq := mq) (A := B) (I := I') (D := D')) n2 h3 h3 w3.2.1 sh_Fr.rf
  have w4 := lw_mod w3 x2 g2
  refine sh_callR (sh_virt (As := []) dc_Law_law_834 lm_Mod_thrown ln_Law_74 wd_944 wd_945 rfl rfl (Nat.le_of_ble_eq_true rfl) w3.2.1.1 rfl) m2 ⟨by decide, Nat.le_of_ble_eq_true rfl, by show cs+2+0 + 0 ≤ room_1.cells; omega, by show ss+12+0 + 0 ≤ room_1.slots; omega⟩ ?_
  refine sh_iload dc_Law_law_837 rfl ?_
  refine sh_icmp_eq (tgt := 844) dc_Law_law_839 (by decide) (fun _ => ?_) (fun z => absurd e00 z)
  refine sh_iload dc_Law_law_844 rfl ?_
  refine sh_if_ne (tgt := 861) dc_Law_law_846 (by decide) (fun _ => ?_) (fun z => absurd z (by decide))
  refine sh_goto_ (tgt := 1050) dc_Law_law_861 (by decide) ?_
  refine sh_lvsub [2, 3, 4, 5, 6, 7] rfl ?_
  refine sh_widen (cs' := cs + 23) (ss' := ss + 116) (by show cs+2+0+0 ≤ cs + 23; omega) (by show ss+12+0+0 ≤ ss + 116; omega) ?_
  exact kk n2 h4 w4
theorem lc_sync_r {A1 : Nat → Nat} {mq : Nat} {B : Nat → Nat} {sc oa od a n n1 cs ss : Nat} {K1 I I' : sh_II} {L1 D D' : sh_DD} {fs : List Value} {yo : Int64} {yd : UInt64} {h h1 : sh_Hp} {Z0 : sh_Zt} {N : Nat} {xs : Nat → Int32} {i e1 e2 : Int32} {v : Int32} (f0 : h a = some (false, 0, fs)) (q1 : vp_in (i + 1) N) (v1 : xs (i + 1).toNatClampNeg = e1) (q2 : vp_in (i + 2) N) (v2 : xs (i + 2).toNatClampNeg = e2) (w1 : lw_W A1 mq B oa od K1 L1 I D yo yd h1) (mC : sh_M md_Hall_sync [.ref a, .int e1, .int e2] (n, h) (.inl (some (.int v), (n1, h1)))) (hM : sh_mM mq B md_Mod_sync [.ref mq, .int e1, .int e2] I D (some (.int v)) I' D') (e00 : I' 0 0 = 0) (hcs : cs + 23 ≤ room_1.cells) (hss : ss + 116 ≤ room_1.slots) (kk : ∀ n' h', lw_W A1 mq B oa od K1 L1 I' D' v.toInt64 yd h' → sh_V md_Law_law (1050, [(5, .int i), (4, .ref od), (3, .ref oa), (2, .ref mq), (1, .ref a), (0, .ref sc)], []) (n', h') (cs + 23) (ss + 116) (lw_G sc N xs Z0)) : sh_V md_Law_law (864, [(5, .int i), (4, .ref od), (3, .ref oa), (2, .ref mq), (1, .ref a), (0, .ref sc)], []) (n, h) cs ss (lw_G sc N xs Z0) := by
  refine sh_aload_n dc_Law_law_864 rfl rfl ?_
  refine sh_aload_n dc_Law_law_865 rfl rfl ?_
  refine sh_iload dc_Law_law_866 rfl ?_
  refine sh_iconst (v := 1) dc_Law_law_868 (by decide) ?_
  refine sh_iadd dc_Law_law_869 ?_
  refine sh_ialdS dc_Law_law_870 q1 ?_
  rw [v1]
  refine sh_aload_n dc_Law_law_871 rfl rfl ?_
  refine sh_iload dc_Law_law_872 rfl ?_
  refine sh_iconst (v := 2) dc_Law_law_874 (by decide) ?_
  refine sh_iadd dc_Law_law_875 ?_
  refine sh_ialdS dc_Law_law_876 q2 ?_
  rw [v2]
  refine sh_aload_n dc_Law_law_877 rfl rfl ?_
  refine sh_callQ (sh_statW (n := 4) (As := [.ref a, .int e1, .int e2, .ref oa]) dc_Law_law_878 wd_814 ⟨by decide, by decide⟩ (by decide) (by decide +kernel) ln_Law_114 wd_813 wd_48 rfl rfl (Nat.le_of_ble_eq_true rfl)) (lr_sync f0 mC w1.2.2.1) ⟨by decide, Nat.le_of_ble_eq_true rfl, by show cs + 3 ≤ room_1.cells; omega, by show ss + 18 ≤ room_1.slots; omega⟩ ?_
  intro n2 h2 eh
  have w2 : lw_W A1 mq B oa od K1 L1 I D v.toInt64 yd h2 := by rw [eh]; exact lw_out w1
  refine sh_istore dc_Law_law_881 (by decide) ?_
  refine sh_aload_n dc_Law_law_883 rfl rfl ?_
  refine sh_aload_n dc_Law_law_884 rfl rfl ?_
  refine sh_iload dc_Law_law_885 rfl ?_
  refine sh_iconst (v := 1) dc_Law_law_887 (by decide) ?_
  refine sh_iadd dc_Law_law_888 ?_
  refine sh_ialdS dc_Law_law_889 q1 ?_
  rw [v1]
  refine sh_aload_n dc_Law_law_890 rfl rfl ?_
  refine sh_iload dc_Law_law_891 rfl ?_
  refine sh_iconst (v := 2) dc_Law_law_893 (by decide) ?_
  refine sh_iadd dc_Law_law_894 ?_
  refine sh_ialdS dc_Law_law_895 q2 ?_
  rw [v2]
  obtain ⟨h3, x1, g1, m1⟩ := hM n2 h2 h2 w2.2.1 sh_Fr.rf
  have w3 := lw_mod w2 x1 g1
  refine sh_callR (sh_virt (As := [.int e1, .int e2]) dc_Law_law_896 lm_Mod_sync ln_Law_116 wd_1067 wd_1068 rfl rfl (Nat.le_of_ble_eq_true rfl) w2.2.1.1 rfl) m1 ⟨by decide, Nat.le_of_ble_eq_true rfl, by show cs+3 + 0 ≤ room_1.cells; omega, by show ss+18 + 0 ≤ room_1.slots; omega⟩ ?_
  refine sh_istore dc_Law_law_899 (by decide) ?_
  refine sh_aload_n dc_Law_law_901 rfl rfl ?_
  obtain ⟨h4, x2, g2, m2⟩ := (mx_Mod_thrown_1 (mq := mq) (A := B) (I := I') (D := D')) n2 h3 h3 w3.2.1 sh_Fr.rf
  have w4 := lw_mod w3 x2 g2
  refine sh_callR (sh_virt (As := []) dc_Law_law_902 lm_Mod_thrown ln_Law_74 wd_944 wd_945 rfl rfl (Nat.le_of_ble_eq_true rfl) w3.2.1.1 rfl) m2 ⟨by decide, Nat.le_of_ble_eq_true rfl, by show cs+3+0 + 0 ≤ room_1.cells; omega, by show ss+18+0 + 0 ≤ room_1.slots; omega⟩ ?_
  refine sh_iload dc_Law_law_905 rfl ?_
  refine sh_icmp_eq (tgt := 912) dc_Law_law_907 (by decide) (fun _ => ?_) (fun z => absurd e00 z)
  refine sh_iload dc_Law_law_912 rfl ?_
  refine sh_if_ne (tgt := 929) dc_Law_law_914 (by decide) (fun z => absurd (by decide) z) (fun _ => ?_)
  refine sh_aload_n dc_Law_law_917 rfl rfl ?_
  refine sh_iconst (v := 0) dc_Law_law_918 (by decide) ?_
  refine sh_lald (i := 0) dc_Law_law_919 w4.2.2.1 rfl (by decide) rfl ?_
  refine sh_iload dc_Law_law_920 rfl ?_
  refine sh_i2l dc_Law_law_922 ?_
  refine sh_lcmp dc_Law_law_923 ?_
  refine sh_if_eq (tgt := 929) dc_Law_law_924 (by decide) (fun _ => ?_) (fun z => absurd (by decide) z)
  refine sh_goto_ (tgt := 1050) dc_Law_law_929 (by decide) ?_
  refine sh_lvsub [2, 3, 4, 5, 6, 7] rfl ?_
  refine sh_widen (cs' := cs + 23) (ss' := ss + 116) (by show cs+3+0+0 ≤ cs + 23; omega) (by show ss+18+0+0 ≤ ss + 116; omega) ?_
  exact kk n2 h4 w4
theorem lc_sync_t1 {A1 : Nat → Nat} {mq : Nat} {B : Nat → Nat} {sc oa od a n n1 cs ss : Nat} {K1 I I' : sh_II} {L1 D D' : sh_DD} {fs : List Value} {yo : Int64} {yd : UInt64} {h h1 : sh_Hp} {Z0 : sh_Zt} {N : Nat} {xs : Nat → Int32} {i e1 e2 : Int32} {u : Int32} (f0 : h a = some (false, 0, fs)) (q1 : vp_in (i + 1) N) (v1 : xs (i + 1).toNatClampNeg = e1) (q2 : vp_in (i + 2) N) (v2 : xs (i + 2).toNatClampNeg = e2) (w1 : lw_W A1 mq B oa od K1 L1 I D yo yd h1) (mC : sh_M md_Hall_sync [.ref a, .int e1, .int e2] (n, h) (.inr (1, h1))) (hM : sh_mM mq B md_Mod_sync [.ref mq, .int e1, .int e2] I D (some (.int u)) I' D') (e00 : I' 0 0 = 1) (hcs : cs + 23 ≤ room_1.cells) (hss : ss + 116 ≤ room_1.slots) (kk : ∀ n' h', lw_W A1 mq B oa od K1 L1 I' D' yo yd h' → sh_V md_Law_law (1050, [(5, .int i), (4, .ref od), (3, .ref oa), (2, .ref mq), (1, .ref a), (0, .ref sc)], []) (n', h') (cs + 23) (ss + 116) (lw_G sc N xs Z0)) : sh_V md_Law_law (864, [(5, .int i), (4, .ref od), (3, .ref oa), (2, .ref mq), (1, .ref a), (0, .ref sc)], []) (n, h) cs ss (lw_G sc N xs Z0) := by
  refine sh_aload_n dc_Law_law_864 rfl rfl ?_
  refine sh_aload_n dc_Law_law_865 rfl rfl ?_
  refine sh_iload dc_Law_law_866 rfl ?_
  refine sh_iconst (v := 1) dc_Law_law_868 (by decide) ?_
  refine sh_iadd dc_Law_law_869 ?_
  refine sh_ialdS dc_Law_law_870 q1 ?_
  rw [v1]
  refine sh_aload_n dc_Law_law_871 rfl rfl ?_
  refine sh_iload dc_Law_law_872 rfl ?_
  refine sh_iconst (v := 2) dc_Law_law_874 (by decide) ?_
  refine sh_iadd dc_Law_law_875 ?_
  refine sh_ialdS dc_Law_law_876 q2 ?_
  rw [v2]
  refine sh_aload_n dc_Law_law_877 rfl rfl ?_
  refine sh_callQ (sh_statW (n := 4) (As := [.ref a, .int e1, .int e2, .ref oa]) dc_Law_law_878 wd_814 ⟨by decide, by decide⟩ (by decide) (by decide +kernel) ln_Law_114 wd_813 wd_48 rfl rfl (Nat.le_of_ble_eq_true rfl)) (lt_sync_1 f0 mC) ⟨by decide, Nat.le_of_ble_eq_true rfl, by show cs + 3 ≤ room_1.cells; omega, by show ss + 18 ≤ room_1.slots; omega⟩ ?_
  intro n2 h2 eh
  have w2 : lw_W A1 mq B oa od K1 L1 I D yo yd h2 := by rw [eh]; exact w1
  refine sh_istore dc_Law_law_881 (by decide) ?_
  refine sh_aload_n dc_Law_law_883 rfl rfl ?_
  refine sh_aload_n dc_Law_law_884 rfl rfl ?_
  refine sh_iload dc_Law_law_885 rfl ?_
  refine sh_iconst (v := 1) dc_Law_law_887 (by decide) ?_
  refine sh_iadd dc_Law_law_888 ?_
  refine sh_ialdS dc_Law_law_889 q1 ?_
  rw [v1]
  refine sh_aload_n dc_Law_law_890 rfl rfl ?_
  refine sh_iload dc_Law_law_891 rfl ?_
  refine sh_iconst (v := 2) dc_Law_law_893 (by decide) ?_
  refine sh_iadd dc_Law_law_894 ?_
  refine sh_ialdS dc_Law_law_895 q2 ?_
  rw [v2]
  obtain ⟨h3, x1, g1, m1⟩ := hM n2 h2 h2 w2.2.1 sh_Fr.rf
  have w3 := lw_mod w2 x1 g1
  refine sh_callR (sh_virt (As := [.int e1, .int e2]) dc_Law_law_896 lm_Mod_sync ln_Law_116 wd_1067 wd_1068 rfl rfl (Nat.le_of_ble_eq_true rfl) w2.2.1.1 rfl) m1 ⟨by decide, Nat.le_of_ble_eq_true rfl, by show cs+3 + 0 ≤ room_1.cells; omega, by show ss+18 + 0 ≤ room_1.slots; omega⟩ ?_
  refine sh_istore dc_Law_law_899 (by decide) ?_
  refine sh_aload_n dc_Law_law_901 rfl rfl ?_
  obtain ⟨h4, x2, g2, m2⟩ := (mx_Mod_thrown_1 (mq := mq) (A := B) (I := I') (D := D')) n2 h3 h3 w3.2.1 sh_Fr.rf
  have w4 := lw_mod w3 x2 g2
  refine sh_callR (sh_virt (As := []) dc_Law_law_902 lm_Mod_thrown ln_Law_74 wd_944 wd_945 rfl rfl (Nat.le_of_ble_eq_true rfl) w3.2.1.1 rfl) m2 ⟨by decide, Nat.le_of_ble_eq_true rfl, by show cs+3+0 + 0 ≤ room_1.cells; omega, by show ss+18+0 + 0 ≤ room_1.slots; omega⟩ ?_
  refine sh_iload dc_Law_law_905 rfl ?_
  refine sh_icmp_eq (tgt := 912) dc_Law_law_907 (by decide) (fun _ => ?_) (fun z => absurd e00 z)
  refine sh_iload dc_Law_law_912 rfl ?_
  refine sh_if_ne (tgt := 929) dc_Law_law_914 (by decide) (fun _ => ?_) (fun z => absurd z (by decide))
  refine sh_goto_ (tgt := 1050) dc_Law_law_929 (by decide) ?_
  refine sh_lvsub [2, 3, 4, 5, 6, 7] rfl ?_
  refine sh_widen (cs' := cs + 23) (ss' := ss + 116) (by show cs+3+0+0 ≤ cs + 23; omega) (by show ss+18+0+0 ≤ ss + 116; omega) ?_
  exact kk n2 h4 w4
theorem lc_sync_t2 {A1 : Nat → Nat} {mq : Nat} {B : Nat → Nat} {sc oa od a n n1 cs ss : Nat} {K1 I I' : sh_II} {L1 D D' : sh_DD} {fs : List Value} {yo : Int64} {yd : UInt64} {h h1 : sh_Hp} {Z0 : sh_Zt} {N : Nat} {xs : Nat → Int32} {i e1 e2 : Int32} {u : Int32} (f0 : h a = some (false, 0, fs)) (q1 : vp_in (i + 1) N) (v1 : xs (i + 1).toNatClampNeg = e1) (q2 : vp_in (i + 2) N) (v2 : xs (i + 2).toNatClampNeg = e2) (w1 : lw_W A1 mq B oa od K1 L1 I D yo yd h1) (mC : sh_M md_Hall_sync [.ref a, .int e1, .int e2] (n, h) (.inr (2, h1))) (hM : sh_mM mq B md_Mod_sync [.ref mq, .int e1, .int e2] I D (some (.int u)) I' D') (e00 : I' 0 0 = 2) (hcs : cs + 23 ≤ room_1.cells) (hss : ss + 116 ≤ room_1.slots) (kk : ∀ n' h', lw_W A1 mq B oa od K1 L1 I' D' yo yd h' → sh_V md_Law_law (1050, [(5, .int i), (4, .ref od), (3, .ref oa), (2, .ref mq), (1, .ref a), (0, .ref sc)], []) (n', h') (cs + 23) (ss + 116) (lw_G sc N xs Z0)) : sh_V md_Law_law (864, [(5, .int i), (4, .ref od), (3, .ref oa), (2, .ref mq), (1, .ref a), (0, .ref sc)], []) (n, h) cs ss (lw_G sc N xs Z0) := by
  refine sh_aload_n dc_Law_law_864 rfl rfl ?_
  refine sh_aload_n dc_Law_law_865 rfl rfl ?_
  refine sh_iload dc_Law_law_866 rfl ?_
  refine sh_iconst (v := 1) dc_Law_law_868 (by decide) ?_
  refine sh_iadd dc_Law_law_869 ?_
  refine sh_ialdS dc_Law_law_870 q1 ?_
  rw [v1]
  refine sh_aload_n dc_Law_law_871 rfl rfl ?_
  refine sh_iload dc_Law_law_872 rfl ?_
  refine sh_iconst (v := 2) dc_Law_law_874 (by decide) ?_
  refine sh_iadd dc_Law_law_875 ?_
  refine sh_ialdS dc_Law_law_876 q2 ?_
  rw [v2]
  refine sh_aload_n dc_Law_law_877 rfl rfl ?_
  refine sh_callQ (sh_statW (n := 4) (As := [.ref a, .int e1, .int e2, .ref oa]) dc_Law_law_878 wd_814 ⟨by decide, by decide⟩ (by decide) (by decide +kernel) ln_Law_114 wd_813 wd_48 rfl rfl (Nat.le_of_ble_eq_true rfl)) (lt_sync_2 f0 mC) ⟨by decide, Nat.le_of_ble_eq_true rfl, by show cs + 3 ≤ room_1.cells; omega, by show ss + 18 ≤ room_1.slots; omega⟩ ?_
  intro n2 h2 eh
  have w2 : lw_W A1 mq B oa od K1 L1 I D yo yd h2 := by rw [eh]; exact w1
  refine sh_istore dc_Law_law_881 (by decide) ?_
  refine sh_aload_n dc_Law_law_883 rfl rfl ?_
  refine sh_aload_n dc_Law_law_884 rfl rfl ?_
  refine sh_iload dc_Law_law_885 rfl ?_
  refine sh_iconst (v := 1) dc_Law_law_887 (by decide) ?_
  refine sh_iadd dc_Law_law_888 ?_
  refine sh_ialdS dc_Law_law_889 q1 ?_
  rw [v1]
  refine sh_aload_n dc_Law_law_890 rfl rfl ?_
  refine sh_iload dc_Law_law_891 rfl ?_
  refine sh_iconst (v := 2) dc_Law_law_893 (by decide) ?_
  refine sh_iadd dc_Law_law_894 ?_
  refine sh_ialdS dc_Law_law_895 q2 ?_
  rw [v2]
  obtain ⟨h3, x1, g1, m1⟩ := hM n2 h2 h2 w2.2.1 sh_Fr.rf
  have w3 := lw_mod w2 x1 g1
  refine sh_callR (sh_virt (As := [.int e1, .int e2]) dc_Law_law_896 lm_Mod_sync ln_Law_116 wd_1067 wd_1068 rfl rfl (Nat.le_of_ble_eq_true rfl) w2.2.1.1 rfl) m1 ⟨by decide, Nat.le_of_ble_eq_true rfl, by show cs+3 + 0 ≤ room_1.cells; omega, by show ss+18 + 0 ≤ room_1.slots; omega⟩ ?_
  refine sh_istore dc_Law_law_899 (by decide) ?_
  refine sh_aload_n dc_Law_law_901 rfl rfl ?_
  obtain ⟨h4, x2, g2, m2⟩ := (mx_Mod_thrown_1 (mq := mq) (A := B) (I := I') (D := D')) n2 h3 h3 w3.2.1 sh_Fr.rf
  have w4 := lw_mod w3 x2 g2
  refine sh_callR (sh_virt (As := []) dc_Law_law_902 lm_Mod_thrown ln_Law_74 wd_944 wd_945 rfl rfl (Nat.le_of_ble_eq_true rfl) w3.2.1.1 rfl) m2 ⟨by decide, Nat.le_of_ble_eq_true rfl, by show cs+3+0 + 0 ≤ room_1.cells; omega, by show ss+18+0 + 0 ≤ room_1.slots; omega⟩ ?_
  refine sh_iload dc_Law_law_905 rfl ?_
  refine sh_icmp_eq (tgt := 912) dc_Law_law_907 (by decide) (fun _ => ?_) (fun z => absurd e00 z)
  refine sh_iload dc_Law_law_912 rfl ?_
  refine sh_if_ne (tgt := 929) dc_Law_law_914 (by decide) (fun _ => ?_) (fun z => absurd z (by decide))
  refine sh_goto_ (tgt := 1050) dc_Law_law_929 (by decide) ?_
  refine sh_lvsub [2, 3, 4, 5, 6, 7] rfl ?_
  refine sh_widen (cs' := cs + 23) (ss' := ss + 116) (by show cs+3+0+0 ≤ cs + 23; omega) (by show ss+18+0+0 ≤ ss + 116; omega) ?_
  exact kk n2 h4 w4
theorem lc_waited_r0 {A1 : Nat → Nat} {mq : Nat} {B : Nat → Nat} {sc oa od a n n1 cs ss : Nat} {K1 I I' : sh_II} {L1 D D' : sh_DD} {fs : List Value} {yo : Int64} {yd : UInt64} {h h1 : sh_Hp} {Z0 : sh_Zt} {N : Nat} {xs : Nat → Int32} {i e1 : Int32} {v : UInt64} (f0 : h a = some (false, 0, fs)) (q1 : vp_in (i + 1) N) (v1 : xs (i + 1).toNatClampNeg = e1) (hz : Op.cmpValue (FP.dcmp v v) .l = 0) (w1 : lw_W A1 mq B oa od K1 L1 I D yo yd h1) (mC : sh_M md_Hall_waited [.ref a, .int e1] (n, h) (.inl (some (.double v), (n1, h1)))) (hM : sh_mM mq B md_Mod_waited [.ref mq, .int e1] I D (some (.double v)) I' D') (e00 : I' 0 0 = 0) (hcs : cs + 23 ≤ room_1.cells) (hss : ss + 116 ≤ room_1.slots) (kk : ∀ n' h', lw_W A1 mq B oa od K1 L1 I' D' yo v h' → sh_V md_Law_law (1050, [(5, .int i), (4, .ref od), (3, .ref oa), (2, .ref mq), (1, .ref a), (0, .ref sc)], []) (n', h') (cs + 23) (ss + 116) (lw_G sc N xs Z0)) : sh_V md_Law_law (932, [(5, .int i), (4, .ref od), (3, .ref oa), (2, .ref mq), (1, .ref a), (0, .ref sc)], []) (n, h) cs ss (lw_G sc N xs Z0) := by
  refine sh_aload_n dc_Law_law_932 rfl rfl ?_
  refine sh_aload_n dc_Law_law_933 rfl rfl ?_
  refine sh_iload dc_Law_law_934 rfl ?_
  refine sh_iconst (v := 1) dc_Law_law_936 (by decide) ?_
  refine sh_iadd dc_Law_law_937 ?_
  refine sh_ialdS dc_Law_law_938 q1 ?_
  rw [v1]
  refine sh_aload dc_Law_law_939 rfl ?_
  refine sh_callQ (sh_statW (n := 3) (As := [.ref a, .int e1, .ref od]) dc_Law_law_941 wd_834 ⟨by decide, by decide⟩ (by decide) (by decide +kernel) ln_Law_117 wd_833 wd_48 rfl rfl (Nat.le_of_ble_eq_true rfl)) (lr_waited f0 mC w1.2.2.2.1) ⟨by decide, Nat.le_of_ble_eq_true rfl, by show cs + 3 ≤ room_1.cells; omega, by show ss + 18 ≤ room_1.slots; omega⟩ ?_
  intro n2 h2 eh
  have w2 : lw_W A1 mq B oa od K1 L1 I D yo v h2 := by rw [eh]; exact lw_outD w1
  refine sh_istore dc_Law_law_944 (by decide) ?_
  refine sh_aload_n dc_Law_law_946 rfl rfl ?_
  refine sh_aload_n dc_Law_law_947 rfl rfl ?_
  refine sh_iload dc_Law_law_948 rfl ?_
  refine sh_iconst (v := 1) dc_Law_law_950 (by decide) ?_
  refine sh_iadd dc_Law_law_951 ?_
  refine sh_ialdS dc_Law_law_952 q1 ?_
  rw [v1]
  obtain ⟨h3, x1, g1, m1⟩ := hM n2 h2 h2 w2.2.1 sh_Fr.rf
  have w3 := lw_mod w2 x1 g1
  refine sh_callR (sh_virt (As := [.int e1]) dc_Law_law_953 lm_Mod_waited ln_Law_120 wd_1071 wd_1072 rfl rfl (Nat.le_of_ble_eq_true rfl) w2.2.1.1 rfl) m1 ⟨by decide, Nat.le_of_ble_eq_true rfl, by show cs+3 + 0 ≤ room_1.cells; omega, by show ss+18 + 0 ≤ room_1.slots; omega⟩ ?_
  refine sh_dstore dc_Law_law_956 (by decide) ?_
  refine sh_aload_n dc_Law_law_958 rfl rfl ?_
  obtain ⟨h4, x2, g2, m2⟩ := (mx_Mod_thrown_1 (mq := mq) (A := B) (I := I') (D := D')) n2 h3 h3 w3.2.1 sh_Fr.rf
  have w4 := lw_mod w3 x2 g2
  refine sh_callR (sh_virt (As := []) dc_Law_law_959 lm_Mod_thrown ln_Law_74 wd_944 wd_945 rfl rfl (Nat.le_of_ble_eq_true rfl) w3.2.1.1 rfl) m2 ⟨by decide, Nat.le_of_ble_eq_true rfl, by show cs+3+0 + 0 ≤ room_1.cells; omega, by show ss+18+0 + 0 ≤ room_1.slots; omega⟩ ?_
  refine sh_iload dc_Law_law_962 rfl ?_
  refine sh_icmp_eq (tgt := 969) dc_Law_law_964 (by decide) (fun _ => ?_) (fun z => absurd e00 z)
  refine sh_iload dc_Law_law_969 rfl ?_
  refine sh_if_ne (tgt := 1006) dc_Law_law_971 (by decide) (fun z => absurd (by decide) z) (fun _ => ?_)
  refine sh_aload dc_Law_law_974 rfl ?_
  refine sh_iconst (v := 0) dc_Law_law_976 (by decide) ?_
  refine sh_dald (i := 0) dc_Law_law_977 w4.2.2.2.1 rfl (by decide) rfl ?_
  refine sh_dload dc_Law_law_978 rfl ?_
  refine sh_dcmp dc_Law_law_980 ?_
  refine sh_if_eq (tgt := 1006) dc_Law_law_981 (by decide) (fun _ => ?_) (fun z => absurd hz z)
  refine sh_goto_ (tgt := 1050) dc_Law_law_1006 (by decide) ?_
  refine sh_lvsub [2, 3, 4, 5, 6, 7] rfl ?_
  refine sh_widen (cs' := cs + 23) (ss' := ss + 116) (by show cs+3+0+0 ≤ cs + 23; omega) (by show ss+18+0+0 ≤ ss + 116; omega) ?_
  exact kk n2 h4 w4
theorem lc_waited_r1 {A1 : Nat → Nat} {mq : Nat} {B : Nat → Nat} {sc oa od a n n1 cs ss : Nat} {K1 I I' : sh_II} {L1 D D' : sh_DD} {fs : List Value} {yo : Int64} {yd : UInt64} {h h1 : sh_Hp} {Z0 : sh_Zt} {N : Nat} {xs : Nat → Int32} {i e1 : Int32} {v : UInt64} (f0 : h a = some (false, 0, fs)) (q1 : vp_in (i + 1) N) (v1 : xs (i + 1).toNatClampNeg = e1) (hz : ¬ Op.cmpValue (FP.dcmp v v) .l = 0) (w1 : lw_W A1 mq B oa od K1 L1 I D yo yd h1) (mC : sh_M md_Hall_waited [.ref a, .int e1] (n, h) (.inl (some (.double v), (n1, h1)))) (hM : sh_mM mq B md_Mod_waited [.ref mq, .int e1] I D (some (.double v)) I' D') (e00 : I' 0 0 = 0) (hcs : cs + 23 ≤ room_1.cells) (hss : ss + 116 ≤ room_1.slots) (kk : ∀ n' h', lw_W A1 mq B oa od K1 L1 I' D' yo v h' → sh_V md_Law_law (1050, [(5, .int i), (4, .ref od), (3, .ref oa), (2, .ref mq), (1, .ref a), (0, .ref sc)], []) (n', h') (cs + 23) (ss + 116) (lw_G sc N xs Z0)) : sh_V md_Law_law (932, [(5, .int i), (4, .ref od), (3, .ref oa), (2, .ref mq), (1, .ref a), (0, .ref sc)], []) (n, h) cs ss (lw_G sc N xs Z0) := by
  refine sh_aload_n dc_Law_law_932 rfl rfl ?_
  refine sh_aload_n dc_Law_law_933 rfl rfl ?_
  refine sh_iload dc_Law_law_934 rfl ?_
  refine sh_iconst (v := 1) dc_Law_law_936 (by decide) ?_
  refine sh_iadd dc_Law_law_937 ?_
  refine sh_ialdS dc_Law_law_938 q1 ?_
  rw [v1]
  refine sh_aload dc_Law_law_939 rfl ?_
  refine sh_callQ (sh_statW (n := 3) (As := [.ref a, .int e1, .ref od]) dc_Law_law_941 wd_834 ⟨by decide, by decide⟩ (by decide) (by decide +kernel) ln_Law_117 wd_833 wd_48 rfl rfl (Nat.le_of_ble_eq_true rfl)) (lr_waited f0 mC w1.2.2.2.1) ⟨by decide, Nat.le_of_ble_eq_true rfl, by show cs + 3 ≤ room_1.cells; omega, by show ss + 18 ≤ room_1.slots; omega⟩ ?_
  intro n2 h2 eh
  have w2 : lw_W A1 mq B oa od K1 L1 I D yo v h2 := by rw [eh]; exact lw_outD w1
  refine sh_istore dc_Law_law_944 (by decide) ?_
  refine sh_aload_n dc_Law_law_946 rfl rfl ?_
  refine sh_aload_n dc_Law_law_947 rfl rfl ?_
  refine sh_iload dc_Law_law_948 rfl ?_
  refine sh_iconst (v := 1) dc_Law_law_950 (by decide) ?_
  refine sh_iadd dc_Law_law_951 ?_
  refine sh_ialdS dc_Law_law_952 q1 ?_
  rw [v1]
  obtain ⟨h3, x1, g1, m1⟩ := hM n2 h2 h2 w2.2.1 sh_Fr.rf
  have w3 := lw_mod w2 x1 g1
  refine sh_callR (sh_virt (As := [.int e1]) dc_Law_law_953 lm_Mod_waited ln_Law_120 wd_1071 wd_1072 rfl rfl (Nat.le_of_ble_eq_true rfl) w2.2.1.1 rfl) m1 ⟨by decide, Nat.le_of_ble_eq_true rfl, by show cs+3 + 0 ≤ room_1.cells; omega, by show ss+18 + 0 ≤ room_1.slots; omega⟩ ?_
  refine sh_dstore dc_Law_law_956 (by decide) ?_
  refine sh_aload_n dc_Law_law_958 rfl rfl ?_
  obtain ⟨h4, x2, g2, m2⟩ := (mx_Mod_thrown_1 (mq := mq) (A := B) (I := I') (D := D')) n2 h3 h3 w3.2.1 sh_Fr.rf
  have w4 := lw_mod w3 x2 g2
  refine sh_callR (sh_virt (As := []) dc_Law_law_959 lm_Mod_thrown ln_Law_74 wd_944 wd_945 rfl rfl (Nat.le_of_ble_eq_true rfl) w3.2.1.1 rfl) m2 ⟨by decide, Nat.le_of_ble_eq_true rfl, by show cs+3+0 + 0 ≤ room_1.cells; omega, by show ss+18+0 + 0 ≤ room_1.slots; omega⟩ ?_
  refine sh_iload dc_Law_law_962 rfl ?_
  refine sh_icmp_eq (tgt := 969) dc_Law_law_964 (by decide) (fun _ => ?_) (fun z => absurd e00 z)
  refine sh_iload dc_Law_law_969 rfl ?_
  refine sh_if_ne (tgt := 1006) dc_Law_law_971 (by decide) (fun z => absurd (by decide) z) (fun _ => ?_)
  refine sh_aload dc_Law_law_974 rfl ?_
  refine sh_iconst (v := 0) dc_Law_law_976 (by decide) ?_
  refine sh_dald (i := 0) dc_Law_law_977 w4.2.2.2.1 rfl (by decide) rfl ?_
  refine sh_dload dc_Law_law_978 rfl ?_
  refine sh_dcmp dc_Law_law_980 ?_
  refine sh_if_eq (tgt := 1006) dc_Law_law_981 (by decide) (fun z => absurd z hz) (fun _ => ?_)
  refine sh_aload dc_Law_law_984 rfl ?_
  refine sh_iconst (v := 0) dc_Law_law_986 (by decide) ?_
  refine sh_dald (i := 0) dc_Law_law_987 w4.2.2.2.1 rfl (by decide) rfl ?_
  refine sh_aload dc_Law_law_988 rfl ?_
  refine sh_iconst (v := 0) dc_Law_law_990 (by decide) ?_
  refine sh_dald (i := 0) dc_Law_law_991 w4.2.2.2.1 rfl (by decide) rfl ?_
  refine sh_dcmp dc_Law_law_992 ?_
  refine sh_if_eq (tgt := 1004) dc_Law_law_993 (by decide) (fun z => absurd z hz) (fun _ => ?_)
  refine sh_dload dc_Law_law_996 rfl ?_
  refine sh_dload dc_Law_law_998 rfl ?_
  refine sh_dcmp dc_Law_law_1000 ?_
  refine sh_if_ne (tgt := 1006) dc_Law_law_1001 (by decide) (fun _ => ?_) (fun z => absurd z hz)
  refine sh_goto_ (tgt := 1050) dc_Law_law_1006 (by decide) ?_
  refine sh_lvsub [2, 3, 4, 5, 6, 7] rfl ?_
  refine sh_widen (cs' := cs + 23) (ss' := ss + 116) (by show cs+3+0+0 ≤ cs + 23; omega) (by show ss+18+0+0 ≤ ss + 116; omega) ?_
  exact kk n2 h4 w4
theorem lc_waited_t1 {A1 : Nat → Nat} {mq : Nat} {B : Nat → Nat} {sc oa od a n n1 cs ss : Nat} {K1 I I' : sh_II} {L1 D D' : sh_DD} {fs : List Value} {yo : Int64} {yd : UInt64} {h h1 : sh_Hp} {Z0 : sh_Zt} {N : Nat} {xs : Nat → Int32} {i e1 : Int32} {u : UInt64} (f0 : h a = some (false, 0, fs)) (q1 : vp_in (i + 1) N) (v1 : xs (i + 1).toNatClampNeg = e1) (w1 : lw_W A1 mq B oa od K1 L1 I D yo yd h1) (mC : sh_M md_Hall_waited [.ref a, .int e1] (n, h) (.inr (1, h1))) (hM : sh_mM mq B md_Mod_waited [.ref mq, .int e1] I D (some (.double u)) I' D') (e00 : I' 0 0 = 1) (hcs : cs + 23 ≤ room_1.cells) (hss : ss + 116 ≤ room_1.slots) (kk : ∀ n' h', lw_W A1 mq B oa od K1 L1 I' D' yo yd h' → sh_V md_Law_law (1050, [(5, .int i), (4, .ref od), (3, .ref oa), (2, .ref mq), (1, .ref a), (0, .ref sc)], []) (n', h') (cs + 23) (ss + 116) (lw_G sc N xs Z0)) : sh_V md_Law_law (932, [(5, .int i), (4, .ref od), (3, .ref oa), (2, .ref mq), (1, .ref a), (0, .ref sc)], []) (n, h) cs ss (lw_G sc N xs Z0) := by
  refine sh_aload_n dc_Law_law_932 rfl rfl ?_
  refine sh_aload_n dc_Law_law_933 rfl rfl ?_
  refine sh_iload dc_Law_law_934 rfl ?_
  refine sh_iconst (v := 1) dc_Law_law_936 (by decide) ?_
  refine sh_iadd dc_Law_law_937 ?_
  refine sh_ialdS dc_Law_law_938 q1 ?_
  rw [v1]
  refine sh_aload dc_Law_law_939 rfl ?_
  refine sh_callQ (sh_statW (n := 3) (As := [.ref a, .int e1, .ref od]) dc_Law_law_941 wd_834 ⟨by decide, by decide⟩ (by decide) (by decide +kernel) ln_Law_117 wd_833 wd_48 rfl rfl (Nat.le_of_ble_eq_true rfl)) (lt_waited_1 f0 mC) ⟨by decide, Nat.le_of_ble_eq_true rfl, by show cs + 3 ≤ room_1.cells; omega, by show ss + 18 ≤ room_1.slots; omega⟩ ?_
  intro n2 h2 eh
  have w2 : lw_W A1 mq B oa od K1 L1 I D yo yd h2 := by rw [eh]; exact w1
  refine sh_istore dc_Law_law_944 (by decide) ?_
  refine sh_aload_n dc_Law_law_946 rfl rfl ?_
  refine sh_aload_n dc_Law_law_947 rfl rfl ?_
  refine sh_iload dc_Law_law_948 rfl ?_
  refine sh_iconst (v := 1) dc_Law_law_950 (by decide) ?_
  refine sh_iadd dc_Law_law_951 ?_
  refine sh_ialdS dc_Law_law_952 q1 ?_
  rw [v1]
  obtain ⟨h3, x1, g1, m1⟩ := hM n2 h2 h2 w2.2.1 sh_Fr.rf
  have w3 := lw_mod w2 x1 g1
  refine sh_callR (sh_virt (As := [.int e1]) dc_Law_law_953 lm_Mod_waited ln_Law_120 wd_1071 wd_1072 rfl rfl (Nat.le_of_ble_eq_true rfl) w2.2.1.1 rfl) m1 ⟨by decide, Nat.le_of_ble_eq_true rfl, by show cs+3 + 0 ≤ room_1.cells; omega, by show ss+18 + 0 ≤ room_1.slots; omega⟩ ?_
  refine sh_dstore dc_Law_law_956 (by decide) ?_
  refine sh_aload_n dc_Law_law_958 rfl rfl ?_
  obtain ⟨h4, x2, g2, m2⟩ := (mx_Mod_thrown_1 (mq := mq) (A := B) (I := I') (D := D')) n2 h3 h3 w3.2.1 sh_Fr.rf
  have w4 := lw_mod w3 x2 g2
  refine sh_callR (sh_virt (As := []) dc_Law_law_959 lm_Mod_thrown ln_Law_74 wd_944 wd_945 rfl rfl (Nat.le_of_ble_eq_true rfl) w3.2.1.1 rfl) m2 ⟨by decide, Nat.le_of_ble_eq_true rfl, by show cs+3+0 + 0 ≤ room_1.cells; omega, by show ss+18+0 + 0 ≤ room_1.slots; omega⟩ ?_
  refine sh_iload dc_Law_law_962 rfl ?_
  refine sh_icmp_eq (tgt := 969) dc_Law_law_964 (by decide) (fun _ => ?_) (fun z => absurd e00 z)
  refine sh_iload dc_Law_law_969 rfl ?_
  refine sh_if_ne (tgt := 1006) dc_Law_law_971 (by decide) (fun _ => ?_) (fun z => absurd z (by decide))
  refine sh_goto_ (tgt := 1050) dc_Law_law_1006 (by decide) ?_
  refine sh_lvsub [2, 3, 4, 5, 6, 7] rfl ?_
  refine sh_widen (cs' := cs + 23) (ss' := ss + 116) (by show cs+3+0+0 ≤ cs + 23; omega) (by show ss+18+0+0 ≤ ss + 116; omega) ?_
  exact kk n2 h4 w4
theorem lc_waited_t2 {A1 : Nat → Nat} {mq : Nat} {B : Nat → Nat} {sc oa od a n n1 cs ss : Nat} {K1 I I' : sh_II} {L1 D D' : sh_DD} {fs : List Value} {yo : Int64} {yd : UInt64} {h h1 : sh_Hp} {Z0 : sh_Zt} {N : Nat} {xs : Nat → Int32} {i e1 : Int32} {u : UInt64} (f0 : h a = some (false, 0, fs)) (q1 : vp_in (i + 1) N) (v1 : xs (i + 1).toNatClampNeg = e1) (w1 : lw_W A1 mq B oa od K1 L1 I D yo yd h1) (mC : sh_M md_Hall_waited [.ref a, .int e1] (n, h) (.inr (2, h1))) (hM : sh_mM mq B md_Mod_waited [.ref mq, .int e1] I D (some (.double u)) I' D') (e00 : I' 0 0 = 2) (hcs : cs + 23 ≤ room_1.cells) (hss : ss + 116 ≤ room_1.slots) (kk : ∀ n' h', lw_W A1 mq B oa od K1 L1 I' D' yo yd h' → sh_V md_Law_law (1050, [(5, .int i), (4, .ref od), (3, .ref oa), (2, .ref mq), (1, .ref a), (0, .ref sc)], []) (n', h') (cs + 23) (ss + 116) (lw_G sc N xs Z0)) : sh_V md_Law_law (932, [(5, .int i), (4, .ref od), (3, .ref oa), (2, .ref mq), (1, .ref a), (0, .ref sc)], []) (n, h) cs ss (lw_G sc N xs Z0) := by
  refine sh_aload_n dc_Law_law_932 rfl rfl ?_
  refine sh_aload_n dc_Law_law_933 rfl rfl ?_
  refine sh_iload dc_Law_law_934 rfl ?_
  refine sh_iconst (v := 1) dc_Law_law_936 (by decide) ?_
  refine sh_iadd dc_Law_law_937 ?_
  refine sh_ialdS dc_Law_law_938 q1 ?_
  rw [v1]
  refine sh_aload dc_Law_law_939 rfl ?_
  refine sh_callQ (sh_statW (n := 3) (As := [.ref a, .int e1, .ref od]) dc_Law_law_941 wd_834 ⟨by decide, by decide⟩ (by decide) (by decide +kernel) ln_Law_117 wd_833 wd_48 rfl rfl (Nat.le_of_ble_eq_true rfl)) (lt_waited_2 f0 mC) ⟨by decide, Nat.le_of_ble_eq_true rfl, by show cs + 3 ≤ room_1.cells; omega, by show ss + 18 ≤ room_1.slots; omega⟩ ?_
  intro n2 h2 eh
  have w2 : lw_W A1 mq B oa od K1 L1 I D yo yd h2 := by rw [eh]; exact w1
  refine sh_istore dc_Law_law_944 (by decide) ?_
  refine sh_aload_n dc_Law_law_946 rfl rfl ?_
  refine sh_aload_n dc_Law_law_947 rfl rfl ?_
  refine sh_iload dc_Law_law_948 rfl ?_
  refine sh_iconst (v := 1) dc_Law_law_950 (by decide) ?_
  refine sh_iadd dc_Law_law_951 ?_
  refine sh_ialdS dc_Law_law_952 q1 ?_
  rw [v1]
  obtain ⟨h3, x1, g1, m1⟩ := hM n2 h2 h2 w2.2.1 sh_Fr.rf
  have w3 := lw_mod w2 x1 g1
  refine sh_callR (sh_virt (As := [.int e1]) dc_Law_law_953 lm_Mod_waited ln_Law_120 wd_1071 wd_1072 rfl rfl (Nat.le_of_ble_eq_true rfl) w2.2.1.1 rfl) m1 ⟨by decide, Nat.le_of_ble_eq_true rfl, by show cs+3 + 0 ≤ room_1.cells; omega, by show ss+18 + 0 ≤ room_1.slots; omega⟩ ?_
  refine sh_dstore dc_Law_law_956 (by decide) ?_
  refine sh_aload_n dc_Law_law_958 rfl rfl ?_
  obtain ⟨h4, x2, g2, m2⟩ := (mx_Mod_thrown_1 (mq := mq) (A := B) (I := I') (D := D')) n2 h3 h3 w3.2.1 sh_Fr.rf
  have w4 := lw_mod w3 x2 g2
  refine sh_callR (sh_virt (As := []) dc_Law_law_959 lm_Mod_thrown ln_Law_74 wd_944 wd_945 rfl rfl (Nat.le_of_ble_eq_true rfl) w3.2.1.1 rfl) m2 ⟨by decide, Nat.le_of_ble_eq_true rfl, by show cs+3+0 + 0 ≤ room_1.cells; omega, by show ss+18+0 + 0 ≤ room_1.slots; omega⟩ ?_
  refine sh_iload dc_Law_law_962 rfl ?_
  refine sh_icmp_eq (tgt := 969) dc_Law_law_964 (by decide) (fun _ => ?_) (fun z => absurd e00 z)
  refine sh_iload dc_Law_law_969 rfl ?_
  refine sh_if_ne (tgt := 1006) dc_Law_law_971 (by decide) (fun _ => ?_) (fun z => absurd z (by decide))
  refine sh_goto_ (tgt := 1050) dc_Law_law_1006 (by decide) ?_
  refine sh_lvsub [2, 3, 4, 5, 6, 7] rfl ?_
  refine sh_widen (cs' := cs + 23) (ss' := ss + 116) (by show cs+3+0+0 ≤ cs + 23; omega) (by show ss+18+0+0 ≤ ss + 116; omega) ?_
  exact kk n2 h4 w4
theorem lc_waited_t5 {A1 : Nat → Nat} {mq : Nat} {B : Nat → Nat} {sc oa od a n n1 cs ss : Nat} {K1 I I' : sh_II} {L1 D D' : sh_DD} {fs : List Value} {yo : Int64} {yd : UInt64} {h h1 : sh_Hp} {Z0 : sh_Zt} {N : Nat} {xs : Nat → Int32} {i e1 : Int32} {u : UInt64} (f0 : h a = some (false, 0, fs)) (q1 : vp_in (i + 1) N) (v1 : xs (i + 1).toNatClampNeg = e1) (w1 : lw_W A1 mq B oa od K1 L1 I D yo yd h1) (mC : sh_M md_Hall_waited [.ref a, .int e1] (n, h) (.inr (5, h1))) (hM : sh_mM mq B md_Mod_waited [.ref mq, .int e1] I D (some (.double u)) I' D') (e00 : I' 0 0 = 3) (hcs : cs + 23 ≤ room_1.cells) (hss : ss + 116 ≤ room_1.slots) (kk : ∀ n' h', lw_W A1 mq B oa od K1 L1 I' D' yo yd h' → sh_V md_Law_law (1050, [(5, .int i), (4, .ref od), (3, .ref oa), (2, .ref mq), (1, .ref a), (0, .ref sc)], []) (n', h') (cs + 23) (ss + 116) (lw_G sc N xs Z0)) : sh_V md_Law_law (932, [(5, .int i), (4, .ref od), (3, .ref oa), (2, .ref mq), (1, .ref a), (0, .ref sc)], []) (n, h) cs ss (lw_G sc N xs Z0) := by
  refine sh_aload_n dc_Law_law_932 rfl rfl ?_
  refine sh_aload_n dc_Law_law_933 rfl rfl ?_
  refine sh_iload dc_Law_law_934 rfl ?_
  refine sh_iconst (v := 1) dc_Law_law_936 (by decide) ?_
  refine sh_iadd dc_Law_law_937 ?_
  refine sh_ialdS dc_Law_law_938 q1 ?_
  rw [v1]
  refine sh_aload dc_Law_law_939 rfl ?_
  refine sh_callQ (sh_statW (n := 3) (As := [.ref a, .int e1, .ref od]) dc_Law_law_941 wd_834 ⟨by decide, by decide⟩ (by decide) (by decide +kernel) ln_Law_117 wd_833 wd_48 rfl rfl (Nat.le_of_ble_eq_true rfl)) (lt_waited_5 f0 mC) ⟨by decide, Nat.le_of_ble_eq_true rfl, by show cs + 3 ≤ room_1.cells; omega, by show ss + 18 ≤ room_1.slots; omega⟩ ?_
  intro n2 h2 eh
  have w2 : lw_W A1 mq B oa od K1 L1 I D yo yd h2 := by rw [eh]; exact w1
  refine sh_istore dc_Law_law_944 (by decide) ?_
  refine sh_aload_n dc_Law_law_946 rfl rfl ?_
  refine sh_aload_n dc_Law_law_947 rfl rfl ?_
  refine sh_iload dc_Law_law_948 rfl ?_
  refine sh_iconst (v := 1) dc_Law_law_950 (by decide) ?_
  refine sh_iadd dc_Law_law_951 ?_
  refine sh_ialdS dc_Law_law_952 q1 ?_
  rw [v1]
  obtain ⟨h3, x1, g1, m1⟩ := hM n2 h2 h2 w2.2.1 sh_Fr.rf
  have w3 := lw_mod w2 x1 g1
  refine sh_callR (sh_virt (As := [.int e1]) dc_Law_law_953 lm_Mod_waited ln_Law_120 wd_1071 wd_1072 rfl rfl (Nat.le_of_ble_eq_true rfl) w2.2.1.1 rfl) m1 ⟨by decide, Nat.le_of_ble_eq_true rfl, by show cs+3 + 0 ≤ room_1.cells; omega, by show ss+18 + 0 ≤ room_1.slots; omega⟩ ?_
  refine sh_dstore dc_Law_law_956 (by decide) ?_
  refine sh_aload_n dc_Law_law_958 rfl rfl ?_
  obtain ⟨h4, x2, g2, m2⟩ := (mx_Mod_thrown_1 (mq := mq) (A := B) (I := I') (D := D')) n2 h3 h3 w3.2.1 sh_Fr.rf
  have w4 := lw_mod w3 x2 g2
  refine sh_callR (sh_virt (As := []) dc_Law_law_959 lm_Mod_thrown ln_Law_74 wd_944 wd_945 rfl rfl (Nat.le_of_ble_eq_true rfl) w3.2.1.1 rfl) m2 ⟨by decide, Nat.le_of_ble_eq_true rfl, by show cs+3+0 + 0 ≤ room_1.cells; omega, by show ss+18+0 + 0 ≤ room_1.slots; omega⟩ ?_
  refine sh_iload dc_Law_law_962 rfl ?_
  refine sh_icmp_eq (tgt := 969) dc_Law_law_964 (by decide) (fun _ => ?_) (fun z => absurd e00 z)
  refine sh_iload dc_Law_law_969 rfl ?_
  refine sh_if_ne (tgt := 1006) dc_Law_law_971 (by decide) (fun _ => ?_) (fun z => absurd z (by decide))
  refine sh_goto_ (tgt := 1050) dc_Law_law_1006 (by decide) ?_
  refine sh_lvsub [2, 3, 4, 5, 6, 7] rfl ?_
  refine sh_widen (cs' := cs + 23) (ss' := ss + 116) (by show cs+3+0+0 ≤ cs + 23; omega) (by show ss+18+0+0 ≤ ss + 116; omega) ?_
  exact kk n2 h4 w4
