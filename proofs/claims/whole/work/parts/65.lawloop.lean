section LWT
variable {A : Nat → Nat} {mq : Nat} {B : Nat → Nat} {sc oa od n cs ss k c : Nat} {K I : sh_II} {L D : sh_DD} {R : Nat → List Nat} {yo : Int64} {yd : UInt64} {h : sh_Hp} {Z : sh_Zt} {i : Int32}
theorem ls_time (H : rl_All K L I D R k c) (hw : lw_W A mq B oa od K L I D yo yd h) (hk : k + 1 ≤ 512) (hcs : cs + 23 ≤ room_1.cells) (hss : ss + 116 ≤ room_1.slots) (kk : lw_k A mq B sc oa od (k + 1) (c + 64) i (cs + 23) (ss + 116) Z) : sh_V md_Law_law (1009, [(5, .int i), (4, .ref od), (3, .ref oa), (2, .ref mq), (1, .ref (A 0)), (0, .ref sc)], []) (n, h) cs ss Z := by
  have e11 : D 11 0 = L 11 0 := H.2.2.2.2.2.2.2.2.1.symm
  obtain ⟨h1, c1, g1, m1⟩ := ct_Hall_time_1 (A := A) (K := K) (L := L) n h h hw.1 sh_Gr.rf
  have w1 := lw_cls hw c1 g1
  obtain ⟨h2, x1, g2, m2⟩ := mx_Mod_time_1 (mq := mq) (A := B) (I := I) (D := D) n h1 h1 w1.2.1 sh_Fr.rf
  have w2 := lw_mod w1 x1 g2
  have hR := (rl_kmono (rl_00 (x := 0) H) hk).mono (c' := c + 64) (by omega)
  rw [e11] at m2
  refine sh_aload_n dc_Law_law_1009 rfl rfl ?_
  refine sh_callR (sh_virt (As := []) dc_Law_law_1010 lm_Hall_time ln_Law_121 wd_177 wd_178 rfl rfl (Nat.le_of_ble_eq_true rfl) (hw.1.1 0 _ rfl) rfl) m1 ⟨by decide, Nat.le_of_ble_eq_true rfl, by show cs + 0 ≤ room_1.cells; omega, by show ss + 0 ≤ room_1.slots; omega⟩ ?_
  refine sh_dstore dc_Law_law_1013 (by decide) ?_
  refine sh_aload_n dc_Law_law_1015 rfl rfl ?_
  refine sh_callR (sh_virt (As := []) dc_Law_law_1016 lm_Mod_time ln_Law_125 wd_1075 wd_1076 rfl rfl (Nat.le_of_ble_eq_true rfl) w1.2.1.1 rfl) m2 ⟨by decide, Nat.le_of_ble_eq_true rfl, by show cs + 0 + 0 ≤ room_1.cells; omega, by show ss + 0 + 0 ≤ room_1.slots; omega⟩ ?_
  refine sh_dstore dc_Law_law_1019 (by decide) ?_
  refine sh_dload dc_Law_law_1021 rfl ?_
  refine sh_dload dc_Law_law_1023 rfl ?_
  refine sh_dcmp dc_Law_law_1025 ?_
  have fin : ∀ pc, pc = 1047 → sh_V md_Law_law (pc, sh_lvs2 (sh_lvs2 [(5, .int i), (4, .ref od), (3, .ref oa), (2, .ref mq), (1, .ref (A 0)), (0, .ref sc)] 6 (.double (L 11 0))) 8 (.double (L 11 0)), []) (n, h2) (cs + 0 + 0) (ss + 0 + 0) Z := by
    intro pc e
    subst e
    refine sh_goto_ (tgt := 1050) dc_Law_law_1047 (by decide) ?_
    refine sh_lvsub [2, 3, 4, 5, 6, 7] rfl ?_
    refine sh_widen (cs' := cs + 23) (ss' := ss + 116) (by omega) (by omega) ?_
    exact kk n h2 A K L _ D R _ _ rfl hR w2
  by_cases hz : Op.cmpValue (FP.dcmp (L 11 0) (L 11 0)) .l = 0
  · refine sh_if_eq (tgt := 1047) dc_Law_law_1026 (by decide) (fun _ => ?_) (fun z => absurd hz z)
    exact fin 1047 rfl
  · refine sh_if_eq (tgt := 1047) dc_Law_law_1026 (by decide) (fun z => absurd z hz) (fun _ => ?_)
    refine sh_dload dc_Law_law_1029 rfl ?_
    refine sh_dload dc_Law_law_1031 rfl ?_
    refine sh_dcmp dc_Law_law_1033 ?_
    refine sh_if_eq (tgt := 1045) dc_Law_law_1034 (by decide) (fun z => absurd z hz) (fun _ => ?_)
    refine sh_dload dc_Law_law_1037 rfl ?_
    refine sh_dload dc_Law_law_1039 rfl ?_
    refine sh_dcmp dc_Law_law_1041 ?_
    refine sh_if_ne (tgt := 1047) dc_Law_law_1042 (by decide) (fun _ => ?_) (fun z => absurd z hz)
    exact fin 1047 rfl
end LWT
/-! the law's loop -/
theorem lw_sub5 {len p : Nat} (hl : len ≤ 2560) (hp : p ≤ 2570) : (Int32.ofNat len - 5) < nI p ↔ len < p + 5 := by
  by_cases h5 : 5 ≤ len
  · obtain ⟨a, rfl⟩ : ∃ a, len = a + 5 := ⟨len - 5, by omega⟩
    have e : Int32.ofNat (a + 5) - 5 = nI a := by
      show nI (a + 5) - 5 = nI a
      rw [← nI_add]
      show nI a + 5 - 5 = nI a
      rw [Int32.add_sub_cancel]
    rw [e, nI_ltI (by omega) (by omega)]
    omega
  · have hn : Int32.ofNat len - 5 < 0 := by
      have : len = 0 ∨ len = 1 ∨ len = 2 ∨ len = 3 ∨ len = 4 := by omega
      rcases this with rfl | rfl | rfl | rfl | rfl <;> decide
    have hp0 : 0 ≤ nI p := nI_pos' (by omega)
    refine ⟨fun _ => by omega, fun _ => ?_⟩
    rw [Int32.lt_iff_toInt_lt] at hn ⊢
    rw [Int32.le_iff_toInt_le] at hp0
    omega
theorem lw_idx {xs : Nat → Int32} {N p g : Nat} (hp : p + g < N) (hl : N ≤ 2560) : vp_in (nI p + nI g) N ∧ xs (nI p + nI g).toNatClampNeg = xs (p + g) := by
  rw [nI_add, nI_clamp (by omega)]
  refine ⟨fun h => ?_, rfl⟩
  rw [nI_clamp (by omega)] at h
  rcases h with h | h
  · exact nI_pos (by omega) h
  · omega
section LWL
variable {mq : Nat} {B : Nat → Nat} {sc oa od N : Nat} {xs : Nat → Int32}
theorem lw_exit {p n cs ss a : Nat} {h : sh_Hp} (hl : N ≤ 2560) (hp : p ≤ 2570) (hx : N < p + 5) (hcs : cs ≤ room_1.cells) (hss : ss ≤ room_1.slots) : sh_V md_Law_law (28, [(5, .int (nI p)), (4, .ref od), (3, .ref oa), (2, .ref mq), (1, .ref a), (0, .ref sc)], []) (n, h) cs ss (lw_G sc N xs (sh_EQ md_Law_law (some (.int 1)) (fun _ => True))) := by
  refine sh_iload dc_Law_law_28 rfl ?_
  refine sh_aload_n dc_Law_law_30 rfl rfl ?_
  refine sh_alenS dc_Law_law_31 ?_
  refine sh_iconst (v := 5) dc_Law_law_32 (by decide) ?_
  refine sh_isub dc_Law_law_33 ?_
  refine sh_icmp_gt (tgt := 1056) dc_Law_law_34 (by decide) (fun _ => ?_) (fun z => absurd ((lw_sub5 hl hp).mpr hx) z)
  refine sh_iconst (v := 1) dc_Law_law_1056 (by decide) ?_
  exact lw_GV (sh_VEQ (sh_ireturn dc_Law_law_1057 rfl rfl hcs hss) trivial)
theorem lw_loop (hl : N ≤ 2560) : ∀ (m p k c cs ss n : Nat) (A : Nat → Nat) (K : sh_II) (L : sh_DD) (I : sh_II) (D : sh_DD) (R : Nat → List Nat) (yo : Int64) (yd : UInt64) (h : sh_Hp), N < p + 5 * m + 5 → p ≤ N + 5 → k + m ≤ 512 → c + 64 * m ≤ 2 ^ 20 → cs + 23 * m ≤ room_1.cells → ss + 116 * m ≤ room_1.slots → rl_All K L I D R k c → lw_W A mq B oa od K L I D yo yd h →
    sh_V md_Law_law (28, [(5, .int (nI p)), (4, .ref od), (3, .ref oa), (2, .ref mq), (1, .ref (A 0)), (0, .ref sc)], []) (n, h) cs ss (lw_G sc N xs (sh_EQ md_Law_law (some (.int 1)) (fun _ => True))) := by
  intro m
  induction m with
  | zero =>
    intro p k c cs ss n A K L I D R yo yd h h1 hp hk hc hcs hss H hw
    exact lw_exit hl (by omega) (by omega) (by omega) (by omega)
  | succ m ih =>
    intro p k c cs ss n A K L I D R yo yd h h1 hp hk hc hcs hss H hw
    by_cases hx : N < p + 5
    · exact lw_exit hl (by omega) hx (by omega) (by omega)
    have kk : lw_k A mq B sc oa od (k + 1) (c + 64) (nI p) (cs + 23) (ss + 116) (lw_G sc N xs (sh_EQ md_Law_law (some (.int 1)) (fun _ => True))) := by
      intro n' h' A' K' L' I' D' R' yo' yd' e0 hR hw'
      refine sh_iinc (v := nI (p + 5)) dc_Law_law_1050 rfl (nI_add p 5) (by decide) ?_
      refine sh_goto_ (tgt := 28) dc_Law_law_1053 (by decide) ?_
      have q := ih (p + 5) (k + 1) (c + 64) (cs + 23) (ss + 116) n' A' K' L' I' D' R' yo' yd' h' (by omega) (by omega) (by omega) (by omega) (by omega) (by omega) hR hw'
      rw [e0] at q
      exact q
    refine sh_iload dc_Law_law_28 rfl ?_
    refine sh_aload_n dc_Law_law_30 rfl rfl ?_
    refine sh_alenS dc_Law_law_31 ?_
    refine sh_iconst (v := 5) dc_Law_law_32 (by decide) ?_
    refine sh_isub dc_Law_law_33 ?_
    refine sh_icmp_gt (tgt := 1056) dc_Law_law_34 (by decide) (fun z => absurd ((lw_sub5 hl (by omega)).mp z) hx) (fun _ => ?_)
    refine sh_aload_n dc_Law_law_37 rfl rfl ?_
    refine sh_iload dc_Law_law_38 rfl ?_
    have x0 := lw_idx (xs := xs) (p := p) (g := 0) (by omega) hl
    have x1 := lw_idx (xs := xs) (p := p) (g := 1) (by omega) hl
    have x2 := lw_idx (xs := xs) (p := p) (g := 2) (by omega) hl
    have x3 := lw_idx (xs := xs) (p := p) (g := 3) (by omega) hl
    have x4 := lw_idx (xs := xs) (p := p) (g := 4) (by omega) hl
    rw [show nI p + nI 0 = nI p from Int32.add_zero _] at x0
    refine sh_ialdS dc_Law_law_40 x0.1 ?_
    rw [x0.2]
    refine sh_bipush (v := 15) dc_Law_law_41 (by decide) ?_
    refine sh_iand dc_Law_law_43 ?_
    generalize xs (p + 0) &&& 15 = x
    by_cases c0 : x = 0
    · subst c0
      refine sh_tableIn (tgt := 112) dc_Law_law_44 (by decide) (by decide) rfl (by decide) ?_
      exact ls_make H hw x1.1 x1.2 x2.1 x2.2 x3.1 x3.2 (by omega) (by omega) (by omega) kk
    by_cases c1 : x = 1
    · subst c1
      refine sh_tableIn (tgt := 192) dc_Law_law_44 (by decide) (by decide) rfl (by decide) ?_
      exact ls_rank H hw x1.1 x1.2 x2.1 x2.2 (by omega) (by omega) (by omega) (by omega) kk
    by_cases c2 : x = 2
    · subst c2
      refine sh_tableIn (tgt := 250) dc_Law_law_44 (by decide) (by decide) rfl (by decide) ?_
      exact ls_acquire H hw x1.1 x1.2 x2.1 x2.2 x3.1 x3.2 x4.1 x4.2 (by omega) (by omega) (by omega) (by omega) kk
    by_cases c3 : x = 3
    · subst c3
      refine sh_tableIn (tgt := 352) dc_Law_law_44 (by decide) (by decide) rfl (by decide) ?_
      exact ls_release H hw x1.1 x1.2 x2.1 x2.2 x3.1 x3.2 (by omega) (by omega) (by omega) (by omega) kk
    by_cases c4 : x = 4
    · subst c4
      refine sh_tableIn (tgt := 432) dc_Law_law_44 (by decide) (by decide) rfl (by decide) ?_
      exact ls_await H hw x1.1 x1.2 x2.1 x2.2 x3.1 x3.2 (by omega) (by omega) (by omega) (by omega) kk
    by_cases c5 : x = 5
    · subst c5
      refine sh_tableIn (tgt := 522) dc_Law_law_44 (by decide) (by decide) rfl (by decide) ?_
      by_cases h3 : xs (p + 3) = 0
      · exact ls_signal0 H hw x1.1 x1.2 x2.1 x2.2 x3.1 x3.2 h3 (by omega) (by omega) (by omega) (by omega) kk
      · exact ls_signal1 H hw x1.1 x1.2 x2.1 x2.2 x3.1 x3.2 h3 (by omega) (by omega) (by omega) (by omega) kk
    by_cases c6 : x = 6
    · subst c6
      refine sh_tableIn (tgt := 618) dc_Law_law_44 (by decide) (by decide) rfl (by decide) ?_
      exact ls_interrupt H hw x1.1 x1.2 (by omega) (by omega) (by omega) (by omega) kk
    by_cases c7 : x = 7
    · subst c7
      refine sh_tableIn (tgt := 674) dc_Law_law_44 (by decide) (by decide) rfl (by decide) ?_
      exact ls_tick H hw x1.1 x1.2 (by omega) (by omega) (by omega) (by omega) kk
    by_cases c8 : x = 8
    · subst c8
      refine sh_tableIn (tgt := 740) dc_Law_law_44 (by decide) (by decide) rfl (by decide) ?_
      exact ls_policy H hw x1.1 x1.2 (by omega) (by omega) (by omega) (by omega) kk
    by_cases c9 : x = 9
    · subst c9
      refine sh_tableIn (tgt := 796) dc_Law_law_44 (by decide) (by decide) rfl (by decide) ?_
      exact ls_thread H hw x1.1 x1.2 x2.1 x2.2 (by omega) (by omega) (by omega) (by omega) kk
    by_cases c10 : x = 10
    · subst c10
      refine sh_tableIn (tgt := 864) dc_Law_law_44 (by decide) (by decide) rfl (by decide) ?_
      exact ls_sync H hw x1.1 x1.2 x2.1 x2.2 (by omega) (by omega) (by omega) (by omega) kk
    by_cases c11 : x = 11
    · subst c11
      refine sh_tableIn (tgt := 932) dc_Law_law_44 (by decide) (by decide) rfl (by decide) ?_
      exact ls_waited H hw x1.1 x1.2 (by omega) (by omega) (by omega) (by omega) kk
    by_cases c12 : x = 12
    · subst c12
      refine sh_tableIn (tgt := 1009) dc_Law_law_44 (by decide) (by decide) rfl (by decide) ?_
      exact ls_time H hw  (by omega) (by omega) (by omega) kk
    have hout : x.toInt < 0 ∨ 12 < x.toInt := by
      refine Classical.byContradiction fun hn => ?_
      have a1 : ¬ x < 0 := fun q => hn (.inl (by rw [Int32.lt_iff_toInt_lt] at q; exact q))
      have a2 : x ≤ 12 := by
        rw [Int32.le_iff_toInt_le]
        have : (12 : Int32).toInt = 12 := by decide
        omega
      obtain ⟨j, hj, e⟩ := nI_of2 (n := 12) (by decide) a1 a2
      rcases j with _ | _ | _ | _ | _ | _ | _ | _ | _ | _ | _ | _ | _ | j
      · exact c0 e
      · exact c1 e
      · exact c2 e
      · exact c3 e
      · exact c4 e
      · exact c5 e
      · exact c6 e
      · exact c7 e
      · exact c8 e
      · exact c9 e
      · exact c10 e
      · exact c11 e
      · exact c12 e
      · omega
    refine sh_tableOut (tgt := 1050) dc_Law_law_44 hout (by decide) ?_
    refine sh_widen (cs' := cs + 23) (ss' := ss + 116) (by omega) (by omega) ?_
    exact kk n h A K L I D R yo yd rfl ((rl_kmono H (by omega)).mono (by omega)) hw
end LWL
