/-! the law from its entry -/
theorem st_Ale (n j : Nat) : n ≤ st_A n j ∧ st_A n j ≤ n + 10 := by
  unfold st_A
  repeat' split
  all_goals omega
theorem st_Bml {x : Nat × Nat × Nat} (hx : x ∈ sh_ml) (n : Nat) : n ≤ st_B n x.1 ∧ st_B n x.1 ≤ n + 21 := by
  have h1 : 1 ≤ x.1 ∧ (x.1 ≤ 10 ∨ (12 ≤ x.1 ∧ x.1 ≤ 23)) := by
    simp only [sh_ml, List.mem_cons, List.not_mem_nil, or_false] at hx
    rcases hx with rfl | rfl | rfl | rfl | rfl | rfl | rfl | rfl | rfl | rfl | rfl | rfl | rfl | rfl | rfl | rfl | rfl | rfl | rfl | rfl | rfl | rfl <;> decide
  unfold st_B
  split <;> omega
theorem lq_start {n sc N : Nat} {xs : Nat → Int32} (hl : N ≤ 2560) : sh_V md_Law_law (0, [(0, .ref sc)], []) (n, fun _ => none) 0 0 (lw_G sc N xs (sh_EQ md_Law_law (some (.int 1)) (fun _ => True))) := by
  refine sh_new (ci := 0) (fs := [.null, .null, .null, .int 0, .double FP.dconst0]) (ty := nt_Hall) dc_Law_law_0 rfl wd_69 wd_70 wd_49 nt_Hall_p rfl nt_Hall_d (by decide) (by decide) ?_
  refine sh_dup dc_Law_law_3 rfl ?_
  obtain ⟨n1, h1, ⟨en1, f0, f1, w0, w1, w2, w3, w4, w5, f2, f3, f4, fr1⟩, m1⟩ := sx_Hall_init (n := n + 1) (a := n) (h := sh_up (fun _ => none) n (false, 0, [.null, .null, .null, .int 0, .double FP.dconst0])) (by omega) (sh_up_eq _ _ _)
  refine sh_callR (sh_init (As := []) dc_Law_law_4 lm_Hall_init ln_Law_64 wd_72 rfl rfl rfl rfl (Nat.le_of_ble_eq_true rfl)) m1 ⟨by decide, Nat.le_of_ble_eq_true rfl, by decide, by decide⟩ ?_
  refine sh_astore_n dc_Law_law_7 rfl (by decide) ?_
  refine sh_new (ci := 9) (fs := [.int 0, .null, .null, .null, .null, .null, .null, .null, .null, .null, .null, .double FP.dconst0, .null, .null, .null, .null, .null, .null, .null, .null, .null, .null, .null, .null, .int 0, .int 0]) (ty := nt_Mod) dc_Law_law_8 rfl wd_856 wd_857 wd_52 nt_Mod_p rfl nt_Mod_d (by decide) (by decide) ?_
  refine sh_dup dc_Law_law_11 rfl ?_
  have en1' : n1 = n + 11 := by omega
  subst en1'
  obtain ⟨n2, h3, ⟨en2, hMW, fr2⟩, m2⟩ := st_mod (n := n + 11 + 1) (a := n + 11) (h := sh_up h1 (n + 11) (false, 9, [.int 0, .null, .null, .null, .null, .null, .null, .null, .null, .null, .null, .double FP.dconst0, .null, .null, .null, .null, .null, .null, .null, .null, .null, .null, .null, .null, .int 0, .int 0])) (by omega) (sh_up_eq _ _ _)
  refine sh_callR (sh_init (As := []) dc_Law_law_12 lm_Mod_init ln_Law_67 wd_859 rfl rfl rfl rfl (Nat.le_of_ble_eq_true rfl)) m2 ⟨by decide, Nat.le_of_ble_eq_true rfl, by decide, by decide⟩ ?_
  refine sh_astore_n dc_Law_law_15 rfl (by decide) ?_
  refine sh_iconst (v := 1) dc_Law_law_16 (by decide) ?_
  refine sh_newa (N := 1) dc_Law_law_17 rfl (ti := 1) rfl (fun U cA q => q) wd_1079 (by decide) (by decide) (by decide) (by decide) (by decide) ?_
  refine sh_astore_n dc_Law_law_19 rfl (by decide) ?_
  refine sh_iconst (v := 1) dc_Law_law_20 (by decide) ?_
  refine sh_newa (N := 1) dc_Law_law_21 rfl (ti := 2) rfl (fun U cA q => q) wd_942 (by decide) (by decide) (by decide) (by decide) (by decide) ?_
  refine sh_astore dc_Law_law_23 (by decide) ?_
  refine sh_iconst (v := 0) dc_Law_law_25 (by decide) ?_
  refine sh_istore dc_Law_law_26 (by decide) ?_
  have en2' : n2 = n + 34 := by omega
  subst en2'
  have k1 : ∀ q, q < n + 11 → sh_up (sh_up h3 (n + 34) (true, 1, [.long 0])) (n + 34 + 1) (true, 2, [.double FP.dconst0]) q = h1 q := fun q hq => by
    rw [sh_up_ne (by omega), sh_up_ne (by omega), fr2 q (by omega) (by omega), sh_up_ne (by omega)]
  have k3 : ∀ q, q < n + 34 → sh_up (sh_up h3 (n + 34) (true, 1, [.long 0])) (n + 34 + 1) (true, 2, [.double FP.dconst0]) q = h3 q := fun q hq => by
    rw [sh_up_ne (by omega), sh_up_ne (by omega)]
  have hW : lw_W (st_A n) (n + 11) (st_B (n + 11 + 1)) (n + 34) (n + 34 + 1) st_K st_D st_I st_D 0 FP.dconst0 (sh_up (sh_up h3 (n + 34) (true, 1, [.long 0])) (n + 34 + 1) (true, 2, [.double FP.dconst0])) := by
    refine ⟨st_CW ?_ ?_ (fun t ht => ?_) ?_ ?_ ?_, hMW.at (k3 _ (by omega)) (fun x hx => k3 _ (by have := st_Bml hx (n + 11 + 1); omega)), ?_, sh_up_eq _ _ _, ⟨fun j hj => ?_, ⟨by omega, by omega⟩, fun x hx => ?_, by omega⟩⟩
    · rw [k1 _ (by omega)]; exact f0
    · rw [k1 _ (by omega)]; exact f1
    · rw [k1 _ (by omega)]
      rcases t with _ | _ | _ | _ | _ | _ | t
      · exact w0
      · exact w1
      · exact w2
      · exact w3
      · exact w4
      · exact w5
      · omega
    · rw [k1 _ (by omega)]; exact f2
    · rw [k1 _ (by omega)]; exact f3
    · rw [k1 _ (by omega)]; exact f4
    · exact (sh_up_ne (by omega)).trans (sh_up_eq _ _ _)
    · have a1 := st_Ale n j
      exact ⟨by omega, fun x hx => by have := st_Bml hx (n + 11 + 1); omega, by omega, by omega⟩
    · have := st_Bml hx (n + 11 + 1)
      exact ⟨by omega, by omega⟩
  exact lw_loop (mq := n + 11) (B := st_B (n + 11 + 1)) (sc := sc) (oa := n + 34) (od := n + 34 + 1) hl 512 0 0 0 _ _ (n + 34 + 1 + 1) (st_A n) st_K st_D st_I st_D (fun _ => []) 0 FP.dconst0 _ (by omega) (by omega) (by omega) (by decide) (Nat.le_of_ble_eq_true rfl) (Nat.le_of_ble_eq_true rfl) st_rel hW
