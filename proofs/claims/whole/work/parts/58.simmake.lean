/-! make on both sides -/
section SMK
variable {A : Nat → Nat} {mq : Nat} {B : Nat → Nat} {K : sh_II} {L : sh_DD} {I : sh_II} {D : sh_DD} {R : Nat → List Nat} {k c n s : Nat} {h : sh_Hp} {x o z : Int32}
theorem mo_cnt : ∀ (m i : Nat) (y : Int32), i + m = 8 → sh_mW mq B md_Mod_make (168, [(0, .ref mq), (5, .int y), (6, .int (nI i))], []) I D 0 0 (some (.int (y + nI ((List.range' i m).filter (fun z => decide (¬ I 12 z < 0))).length))) I D := by
  intro m
  induction m with
  | zero =>
    intro i y hi
    have : i = 8 := by omega
    subst this
    have e : y + nI ((List.range' 8 0).filter (fun z => decide (¬ I 12 z < 0))).length = y := by
      show y + nI 0 = y
      rw [nI_0, Int32.add_zero]
    rw [e]
    exact mb_Mod_make_e_168_1 (by decide)
  | succ m ih =>
    intro i y hi
    have hx : ¬ (8 : Int32) ≤ nI i := nI_ge (b := 8) (by omega) (by decide)
    rw [List.range'_succ, List.filter_cons]
    by_cases hc : I 12 i < 0
    · have q := ih (i + 1) (y + 0) (by omega)
      rw [Int32.add_zero] at q
      have q2 := mb_Mod_make_168_1 (y := y) (by omega) hx hc (by rw [Int32.add_zero]; exact q)
      simpa [hc] using q2
    · have q := ih (i + 1) (y + 1) (by omega)
      have q2 := mb_Mod_make_168_2 (y := y) (by omega) hx hc q
      have e : (if decide (¬ I 12 i < 0) = true then i :: (List.range' (i + 1) m).filter (fun z => decide (¬ I 12 z < 0)) else (List.range' (i + 1) m).filter (fun z => decide (¬ I 12 z < 0))) = i :: (List.range' (i + 1) m).filter (fun z => decide (¬ I 12 z < 0)) := by simp [hc]
      rw [e, List.length_cons, nI_succ, Int32.add_comm (nI _) 1, ← Int32.add_assoc]
      exact q2
theorem mo_cnt8 (hk : ∀ z, z < 8 → rl_kd (I 12 z)) : sh_mW mq B md_Mod_make (168, [(0, .ref mq), (5, .int 0), (6, .int 0)], []) I D 0 0 (some (.int (nI (rl_cnt I)))) I D := by
  have q := mo_cnt (mq := mq) (B := B) (I := I) (D := D) 8 0 0 rfl
  have e : (List.range' 0 8).filter (fun z => decide (¬ I 12 z < 0)) = (List.range 8).filter (fun s => decide (¬ I 12 s = -1)) := by
    rw [← List.range_eq_range']
    apply List.filter_congr
    intro z hz
    have := hk z (List.mem_range.mp hz)
    rcases this with h | h | h | h | h | h | h | h <;> rw [h] <;> decide
  rw [e, Int32.zero_add] at q
  exact q
theorem rl_mkok (H : rl_All K L I D R k c) (hs : s < 8) (h12 : I 12 s = -1) : mk_ok K s := by
  refine ⟨hs, fun t ht => ?_, rl_okr H, fun z hz hc => ?_, fun z hz => (H.2.2.2.1 z hz).2.2.2, by rw [(H.2.1 s hs).1, h12]; decide⟩
  · rcases rl_place H ht with ⟨p5, -⟩ | ⟨u, hu, p5, -, -, hm⟩
    · exact .inl p5
    · exact .inr ⟨u, hu, fun e => rl_kd_wait H hu hm (e ▸ h12), p5⟩
  · have y1 := (H.2.1 z hz).1
    have y8 := (H.2.1 z hz).2.2.2.2.2.2.2.1
    rw [← y1] at y8
    have h6 : I 12 z = 6 := by
      rcases rl_kdcl y8 with ⟨-, e, -⟩ | ⟨e, -⟩ | ⟨e, -⟩ | ⟨e, -⟩ | ⟨e, -⟩ | ⟨-, -, e⟩
      all_goals first
        | (rw [y1] at e; exact e)
        | (rw [hc] at e; exact absurd e (by decide))
    obtain ⟨q, hq, e16, hkq⟩ := H.2.2.1 z hz h6
    exact ⟨q, hq, fun e => by rw [e, h12] at hkq; exact absurd hkq (by decide), (H.2.1 z hz).2.2.2.2.1.trans e16⟩
/-- what comes of make -/
def sm_mk (A : Nat → Nat) (mq : Nat) (B : Nat → Nat) (x o z : Int32) (n : Nat) (h : sh_Hp) (K : sh_II) (L : sh_DD) (I : sh_II) (D : sh_DD) (R : Nat → List Nat) (k c : Nat) : Prop :=
  (∃ j I', (j = 1 ∨ j = 2 ∨ j = 3) ∧ sh_cM A md_Hall_make [.ref (A 0), .int x, .int o, .int z] K L (.inr j) K L ∧ sh_mM mq B md_Mod_make [.ref mq, .int x, .int o, .int z] I D (some (.int 0)) I' D ∧ I' 0 0 = nI j ∧ rl_All K L I' D R k c) ∨
  ∃ A' K' n' h' I' v, n ≤ n' ∧ sh_CW A' K' L h' ∧ (∀ q, q < n → q ≠ A 0 → q ≠ A 2 → h' q = h q) ∧ A' 0 = A 0 ∧ (∀ j, A' j = A j ∨ n ≤ A' j) ∧ sh_M md_Hall_make [.ref (A 0), .int x, .int o, .int z] (n, h) (.inl (some (.int v), (n', h'))) ∧ sh_mM mq B md_Mod_make [.ref mq, .int x, .int o, .int z] I D (some (.int v)) I' D ∧ I' 0 0 = 0 ∧ rl_All K' L I' D R k c
theorem sm_mkt {I' : sh_II} {y w : Int32} (j : Nat) (hj : j = 1 ∨ j = 2 ∨ j = 3) (H : rl_All K L I D R k c) (h1 : sh_cM A md_Hall_make [.ref (A 0), .int x, .int o, .int z] K L (.inr j) K L) (h2 : sh_mM mq B md_Mod_make [.ref mq, .int x, .int o, .int z] I D (some (.int 0)) (sh_u2 (sh_u2 I 0 0 y) 0 0 w) D) (e : w = nI j) : sm_mk A mq B x o z n h K L I D R k c := .inl ⟨j, _, hj, h1, h2, by rw [sh_u2_eq]; exact e, rl_00 (rl_00 H)⟩
theorem mk_Aold (j : Nat) : mk_A A n s j = A j ∨ n ≤ mk_A A n s j := by
  unfold mk_A
  split
  · exact .inr (Nat.le_refl _)
  split
  · exact .inr (Nat.le_succ _)
  split
  · exact .inr (Nat.le_add_right _ _)
  split
  · exact .inr (Nat.le_add_right _ _)
  · exact .inl rfl
theorem mk_C {dm : List Value} {v : Option Value} {I' : sh_II} {D' : sh_DD} (hm : sh_mW mq B md_Mod_make (0, [(0, .ref mq), (1, .int x), (2, .int o), (3, .int z)], []) I D 0 0 v I' D') : sh_mM mq B md_Mod_make [.ref mq, .int x, .int o, .int z] I D v I' D' := hm
theorem sm_make_0 (H : rl_All K L I D R k c) (hW : sh_CW A K L h) (dom : ∀ (q : Nat) (o : sh_Ob), h q = some o → q < n) (hs : s < 8) : sm_mk A mq B (nI s) 0 z n h K L I D R k c := by
  rcases sm_rng (a := 0) (b := 1) (m := 0) (by decide) (by decide) z with g | ⟨g1, g2, g3⟩ | ⟨w, hw, -, z1, z2, z3⟩
  · exact sm_mkt (I' := I) 1 (by decide) H (ct_Hall_make_k0_1 hs (by decide) g) (mk_C (dm := []) (mb_Mod_make_k0_0_1 hs g)) (by decide)
  · exact sm_mkt (I' := I) 1 (by decide) H (ct_Hall_make_k0_3 hs (by decide) g1 g2) (mk_C (dm := []) (mb_Mod_make_k0_0_4 hs g1 g3)) (by decide)
  by_cases e12 : I 12 s = -1
  · have hneg : I 12 s < 0 := by rw [e12]; decide
    have h12 : I 12 s = -1 := e12
    have ab := rl_absent H hs h12
    have y := H.2.1 s hs
    have hR := rl_make (kd := 0) (p := 0) (lk := (-1)) (rl_00 (x := 0) H) hs ((sh_u2_row (by decide) s).trans h12) (by unfold rl_kd; decide) (by decide) ⟨0, by omega, rfl, .inl rfl⟩ (fun q => absurd q (by decide))
    obtain ⟨n', h', g1, g2, g3, g4⟩ := cm_make_0 (n := n) (z := z) (rl_mkok H hs h12) hW dom (y.2.1.trans ab.2.1) (y.2.2.1.trans ab.2.2.1) (y.2.2.2.2.2.1.trans ab.2.2.2.2.1) (y.2.2.2.2.2.2.1.trans ab.2.2.2.2.2.1) (by rw [(H.2.2.2.1 s hs).1.1, ab.1]; rfl) (fun t ht => (y.2.2.2.2.2.2.2.2.2.2.2.2.2 t ht).1.trans (ab.2.2.2.2.2.2 t ht)) z1 z2
    have h29 : K 29 0 + 1 = nI (rl_cnt (sh_u2 (sh_u2 (sh_u2 (sh_u2 I 0 0 0) 12 s 0) 15 s 0) 16 s (-1))) := by
      rw [← hR.2]; simp [mk_K, sh_u2]
    have hcnt := mo_cnt8 (mq := mq) (B := B) (D := D) (fun z hz => (hR.1.2.1 z hz).2.2.2.2.2.2.2.1)
    exact .inr ⟨_, _, n', h', _, _, g1, g2, g3, mk_A_lo (by omega), mk_Aold, g4, mk_C (dm := []) (mb_Mod_make_k0_0_2 hs z1 z3 hneg (by rw [h29]; exact hcnt)), by simp [sh_u2], hR.1⟩
  · have y8 := (H.2.1 s hs).2.2.2.2.2.2.2.1
    have hpos : ¬ I 12 s < 0 := by rcases y8 with q | q | q | q | q | q | q | q <;> first | exact absurd q e12 | (rw [q]; decide)
    have hcl : ¬ cw_cl (K 12 s) = 0 := by rw [(H.2.1 s hs).1]; rcases y8 with q | q | q | q | q | q | q | q <;> first | exact absurd q e12 | (rw [q]; decide)
    exact sm_mkt (I' := I) 3 (by decide) H (ct_Hall_make_k0_2 hs (by decide) z1 z2 hcl) (mk_C (dm := []) (mb_Mod_make_k0_0_3 hs z1 z3 hpos)) (by decide)
theorem sm_make_1 (H : rl_All K L I D R k c) (hW : sh_CW A K L h) (dom : ∀ (q : Nat) (o : sh_Ob), h q = some o → q < n) (hs : s < 8) : sm_mk A mq B (nI s) 1 z n h K L I D R k c := by
  rcases sm_rng (a := 0) (b := 1) (m := 0) (by decide) (by decide) z with g | ⟨g1, g2, g3⟩ | ⟨w, hw, -, z1, z2, z3⟩
  · exact sm_mkt (I' := I) 1 (by decide) H (ct_Hall_make_k1_1 hs (by decide) g) (mk_C (dm := []) (mb_Mod_make_k1_0_1 hs g)) (by decide)
  · exact sm_mkt (I' := I) 1 (by decide) H (ct_Hall_make_k1_3 hs (by decide) g1 g2) (mk_C (dm := []) (mb_Mod_make_k1_0_4 hs g1 g3)) (by decide)
  by_cases e12 : I 12 s = -1
  · have hneg : I 12 s < 0 := by rw [e12]; decide
    have h12 : I 12 s = -1 := e12
    have ab := rl_absent H hs h12
    have y := H.2.1 s hs
    have hR := rl_make (kd := 1) (p := 0) (lk := (-1)) (rl_00 (x := 0) H) hs ((sh_u2_row (by decide) s).trans h12) (by unfold rl_kd; decide) (by decide) ⟨0, by omega, rfl, .inl rfl⟩ (fun q => absurd q (by decide))
    obtain ⟨n', h', g1, g2, g3, g4⟩ := cm_make_1 (n := n) (z := z) (rl_mkok H hs h12) hW dom (y.2.1.trans ab.2.1) (y.2.2.1.trans ab.2.2.1) (y.2.2.2.2.2.1.trans ab.2.2.2.2.1) (y.2.2.2.2.2.2.1.trans ab.2.2.2.2.2.1) (by rw [(H.2.2.2.1 s hs).1.1, ab.1]; rfl) (fun t ht => (y.2.2.2.2.2.2.2.2.2.2.2.2.2 t ht).1.trans (ab.2.2.2.2.2.2 t ht)) z1 z2
    have h29 : K 29 0 + 1 = nI (rl_cnt (sh_u2 (sh_u2 (sh_u2 (sh_u2 I 0 0 0) 12 s 1) 15 s 0) 16 s (-1))) := by
      rw [← hR.2]; simp [mk_K, sh_u2]
    have hcnt := mo_cnt8 (mq := mq) (B := B) (D := D) (fun z hz => (hR.1.2.1 z hz).2.2.2.2.2.2.2.1)
    exact .inr ⟨_, _, n', h', _, _, g1, g2, g3, mk_A_lo (by omega), mk_Aold, g4, mk_C (dm := []) (mb_Mod_make_k1_0_2 hs z1 z3 hneg (by rw [h29]; exact hcnt)), by simp [sh_u2], hR.1⟩
  · have y8 := (H.2.1 s hs).2.2.2.2.2.2.2.1
    have hpos : ¬ I 12 s < 0 := by rcases y8 with q | q | q | q | q | q | q | q <;> first | exact absurd q e12 | (rw [q]; decide)
    have hcl : ¬ cw_cl (K 12 s) = 0 := by rw [(H.2.1 s hs).1]; rcases y8 with q | q | q | q | q | q | q | q <;> first | exact absurd q e12 | (rw [q]; decide)
    exact sm_mkt (I' := I) 3 (by decide) H (ct_Hall_make_k1_2 hs (by decide) z1 z2 hcl) (mk_C (dm := []) (mb_Mod_make_k1_0_3 hs z1 z3 hpos)) (by decide)
theorem sm_make_2 (H : rl_All K L I D R k c) (hW : sh_CW A K L h) (dom : ∀ (q : Nat) (o : sh_Ob), h q = some o → q < n) (hs : s < 8) : sm_mk A mq B (nI s) 2 z n h K L I D R k c := by
  rcases sm_rng (a := 5) (b := 6) (m := 5) (by decide) (by decide) z with g | ⟨g1, g2, g3⟩ | ⟨w, hw, -, z1, z2, z3⟩
  · exact sm_mkt (I' := I) 1 (by decide) H (ct_Hall_make_k2_1 hs g) (mk_C (dm := []) (mb_Mod_make_k2_0_1 hs g)) (by decide)
  · exact sm_mkt (I' := I) 1 (by decide) H (ct_Hall_make_k2_3 hs g1 g2) (mk_C (dm := []) (mb_Mod_make_k2_0_4 hs g1 g3)) (by decide)
  by_cases e12 : I 12 s = -1
  · have hneg : I 12 s < 0 := by rw [e12]; decide
    have h12 : I 12 s = -1 := e12
    have ab := rl_absent H hs h12
    have y := H.2.1 s hs
    have hR := rl_make (kd := 2) (p := z) (lk := (-1)) (rl_00 (x := 0) H) hs ((sh_u2_row (by decide) s).trans h12) (by unfold rl_kd; decide) (by decide) (by obtain ⟨w, hw, e⟩ := nI_of2 (n := 5) (by decide) z1 z2; exact ⟨w, by omega, e, .inr (by decide)⟩) (fun q => absurd q (by decide))
    obtain ⟨n', h', g1, g2, g3, g4⟩ := cm_make_2 (n := n) (z := z) (rl_mkok H hs h12) hW dom (y.2.1.trans ab.2.1) (y.2.2.1.trans ab.2.2.1) (y.2.2.2.2.2.1.trans ab.2.2.2.2.1) (y.2.2.2.2.2.2.1.trans ab.2.2.2.2.2.1) (by rw [(H.2.2.2.1 s hs).1.1, ab.1]; rfl) (fun t ht => (y.2.2.2.2.2.2.2.2.2.2.2.2.2 t ht).1.trans (ab.2.2.2.2.2.2 t ht)) z1 z2
    have h29 : K 29 0 + 1 = nI (rl_cnt (sh_u2 (sh_u2 (sh_u2 (sh_u2 I 0 0 0) 12 s 2) 15 s z) 16 s (-1))) := by
      rw [← hR.2]; simp [mk_K, sh_u2]
    have hcnt := mo_cnt8 (mq := mq) (B := B) (D := D) (fun z hz => (hR.1.2.1 z hz).2.2.2.2.2.2.2.1)
    exact .inr ⟨_, _, n', h', _, _, g1, g2, g3, mk_A_lo (by omega), mk_Aold, g4, mk_C (dm := []) (mb_Mod_make_k2_0_2 hs z1 z3 hneg (by rw [h29]; exact hcnt)), by simp [sh_u2], hR.1⟩
  · have y8 := (H.2.1 s hs).2.2.2.2.2.2.2.1
    have hpos : ¬ I 12 s < 0 := by rcases y8 with q | q | q | q | q | q | q | q <;> first | exact absurd q e12 | (rw [q]; decide)
    have hcl : ¬ cw_cl (K 12 s) = 0 := by rw [(H.2.1 s hs).1]; rcases y8 with q | q | q | q | q | q | q | q <;> first | exact absurd q e12 | (rw [q]; decide)
    exact sm_mkt (I' := I) 3 (by decide) H (ct_Hall_make_k2_2 hs z1 z2 hcl) (mk_C (dm := []) (mb_Mod_make_k2_0_3 hs z1 z3 hpos)) (by decide)
theorem sm_make_3 (H : rl_All K L I D R k c) (hW : sh_CW A K L h) (dom : ∀ (q : Nat) (o : sh_Ob), h q = some o → q < n) (hs : s < 8) : sm_mk A mq B (nI s) 3 z n h K L I D R k c := by
  rcases sm_rng (a := 5) (b := 6) (m := 5) (by decide) (by decide) z with g | ⟨g1, g2, g3⟩ | ⟨w, hw, -, z1, z2, z3⟩
  · exact sm_mkt (I' := I) 1 (by decide) H (ct_Hall_make_k3_1 hs g) (mk_C (dm := []) (mb_Mod_make_k3_0_1 hs g)) (by decide)
  · exact sm_mkt (I' := I) 1 (by decide) H (ct_Hall_make_k3_3 hs g1 g2) (mk_C (dm := []) (mb_Mod_make_k3_0_4 hs g1 g3)) (by decide)
  by_cases e12 : I 12 s = -1
  · have hneg : I 12 s < 0 := by rw [e12]; decide
    have h12 : I 12 s = -1 := e12
    have ab := rl_absent H hs h12
    have y := H.2.1 s hs
    have hR := rl_make (kd := 3) (p := z) (lk := (-1)) (rl_00 (x := 0) H) hs ((sh_u2_row (by decide) s).trans h12) (by unfold rl_kd; decide) (by decide) (by obtain ⟨w, hw, e⟩ := nI_of2 (n := 5) (by decide) z1 z2; exact ⟨w, by omega, e, .inr (by decide)⟩) (fun q => absurd q (by decide))
    obtain ⟨n', h', g1, g2, g3, g4⟩ := cm_make_3 (n := n) (z := z) (rl_mkok H hs h12) hW dom (y.2.1.trans ab.2.1) (y.2.2.1.trans ab.2.2.1) (y.2.2.2.2.2.1.trans ab.2.2.2.2.1) (y.2.2.2.2.2.2.1.trans ab.2.2.2.2.2.1) (by rw [(H.2.2.2.1 s hs).1.1, ab.1]; rfl) (fun t ht => (y.2.2.2.2.2.2.2.2.2.2.2.2.2 t ht).1.trans (ab.2.2.2.2.2.2 t ht)) z1 z2
    have h29 : K 29 0 + 1 = nI (rl_cnt (sh_u2 (sh_u2 (sh_u2 (sh_u2 I 0 0 0) 12 s 3) 15 s z) 16 s (-1))) := by
      rw [← hR.2]; simp [mk_K, sh_u2]
    have hcnt := mo_cnt8 (mq := mq) (B := B) (D := D) (fun z hz => (hR.1.2.1 z hz).2.2.2.2.2.2.2.1)
    exact .inr ⟨_, _, n', h', _, _, g1, g2, g3, mk_A_lo (by omega), mk_Aold, g4, mk_C (dm := []) (mb_Mod_make_k3_0_2 hs z1 z3 hneg (by rw [h29]; exact hcnt)), by simp [sh_u2], hR.1⟩
  · have y8 := (H.2.1 s hs).2.2.2.2.2.2.2.1
    have hpos : ¬ I 12 s < 0 := by rcases y8 with q | q | q | q | q | q | q | q <;> first | exact absurd q e12 | (rw [q]; decide)
    have hcl : ¬ cw_cl (K 12 s) = 0 := by rw [(H.2.1 s hs).1]; rcases y8 with q | q | q | q | q | q | q | q <;> first | exact absurd q e12 | (rw [q]; decide)
    exact sm_mkt (I' := I) 3 (by decide) H (ct_Hall_make_k3_2 hs z1 z2 hcl) (mk_C (dm := []) (mb_Mod_make_k3_0_3 hs z1 z3 hpos)) (by decide)
theorem sm_make_4 (H : rl_All K L I D R k c) (hW : sh_CW A K L h) (dom : ∀ (q : Nat) (o : sh_Ob), h q = some o → q < n) (hs : s < 8) : sm_mk A mq B (nI s) 4 z n h K L I D R k c := by
  rcases sm_rng (a := 5) (b := 6) (m := 5) (by decide) (by decide) z with g | ⟨g1, g2, g3⟩ | ⟨w, hw, -, z1, z2, z3⟩
  · exact sm_mkt (I' := I) 1 (by decide) H (ct_Hall_make_k4_1 hs g) (mk_C (dm := []) (mb_Mod_make_k4_0_1 hs g)) (by decide)
  · exact sm_mkt (I' := I) 1 (by decide) H (ct_Hall_make_k4_3 hs g1 g2) (mk_C (dm := []) (mb_Mod_make_k4_0_4 hs g1 g3)) (by decide)
  by_cases e12 : I 12 s = -1
  · have hneg : I 12 s < 0 := by rw [e12]; decide
    have h12 : I 12 s = -1 := e12
    have ab := rl_absent H hs h12
    have y := H.2.1 s hs
    have hR := rl_make (kd := 4) (p := z) (lk := (-1)) (rl_00 (x := 0) H) hs ((sh_u2_row (by decide) s).trans h12) (by unfold rl_kd; decide) (by decide) (by obtain ⟨w, hw, e⟩ := nI_of2 (n := 5) (by decide) z1 z2; exact ⟨w, by omega, e, .inr (by decide)⟩) (fun q => absurd q (by decide))
    obtain ⟨n', h', g1, g2, g3, g4⟩ := cm_make_4 (n := n) (z := z) (rl_mkok H hs h12) hW dom (y.2.1.trans ab.2.1) (y.2.2.1.trans ab.2.2.1) (y.2.2.2.2.2.1.trans ab.2.2.2.2.1) (y.2.2.2.2.2.2.1.trans ab.2.2.2.2.2.1) (by rw [(H.2.2.2.1 s hs).1.1, ab.1]; rfl) (fun t ht => (y.2.2.2.2.2.2.2.2.2.2.2.2.2 t ht).1.trans (ab.2.2.2.2.2.2 t ht)) z1 z2
    have h29 : K 29 0 + 1 = nI (rl_cnt (sh_u2 (sh_u2 (sh_u2 (sh_u2 I 0 0 0) 12 s 4) 15 s z) 16 s (-1))) := by
      rw [← hR.2]; simp [mk_K, sh_u2]
    have hcnt := mo_cnt8 (mq := mq) (B := B) (D := D) (fun z hz => (hR.1.2.1 z hz).2.2.2.2.2.2.2.1)
    exact .inr ⟨_, _, n', h', _, _, g1, g2, g3, mk_A_lo (by omega), mk_Aold, g4, mk_C (dm := []) (mb_Mod_make_k4_0_2 hs z1 z3 hneg (by rw [h29]; exact hcnt)), by simp [sh_u2], hR.1⟩
  · have y8 := (H.2.1 s hs).2.2.2.2.2.2.2.1
    have hpos : ¬ I 12 s < 0 := by rcases y8 with q | q | q | q | q | q | q | q <;> first | exact absurd q e12 | (rw [q]; decide)
    have hcl : ¬ cw_cl (K 12 s) = 0 := by rw [(H.2.1 s hs).1]; rcases y8 with q | q | q | q | q | q | q | q <;> first | exact absurd q e12 | (rw [q]; decide)
    exact sm_mkt (I' := I) 3 (by decide) H (ct_Hall_make_k4_2 hs z1 z2 hcl) (mk_C (dm := []) (mb_Mod_make_k4_0_3 hs z1 z3 hpos)) (by decide)
theorem sm_make_5 (H : rl_All K L I D R k c) (hW : sh_CW A K L h) (dom : ∀ (q : Nat) (o : sh_Ob), h q = some o → q < n) (hs : s < 8) : sm_mk A mq B (nI s) 5 z n h K L I D R k c := by
  rcases sm_rng (a := 0) (b := 1) (m := 0) (by decide) (by decide) z with g | ⟨g1, g2, g3⟩ | ⟨w, hw, -, z1, z2, z3⟩
  · exact sm_mkt (I' := I) 1 (by decide) H (ct_Hall_make_k5_1 hs g) (mk_C (dm := []) (mb_Mod_make_k5_0_1 hs g)) (by decide)
  · exact sm_mkt (I' := I) 1 (by decide) H (ct_Hall_make_k5_3 hs g1 g2) (mk_C (dm := []) (mb_Mod_make_k5_0_4 hs g1 g3)) (by decide)
  by_cases e12 : I 12 s = -1
  · have hneg : I 12 s < 0 := by rw [e12]; decide
    have h12 : I 12 s = -1 := e12
    have ab := rl_absent H hs h12
    have y := H.2.1 s hs
    have hR := rl_make (kd := 5) (p := 0) (lk := (-1)) (rl_00 (x := 0) H) hs ((sh_u2_row (by decide) s).trans h12) (by unfold rl_kd; decide) (by decide) ⟨0, by omega, rfl, .inl rfl⟩ (fun q => absurd q (by decide))
    obtain ⟨n', h', g1, g2, g3, g4⟩ := cm_make_5 (n := n) (z := z) (rl_mkok H hs h12) hW dom (y.2.1.trans ab.2.1) (y.2.2.1.trans ab.2.2.1) (y.2.2.2.2.2.1.trans ab.2.2.2.2.1) (y.2.2.2.2.2.2.1.trans ab.2.2.2.2.2.1) (by rw [(H.2.2.2.1 s hs).1.1, ab.1]; rfl) (fun t ht => (y.2.2.2.2.2.2.2.2.2.2.2.2.2 t ht).1.trans (ab.2.2.2.2.2.2 t ht)) z1 z2
    have h29 : K 29 0 + 1 = nI (rl_cnt (sh_u2 (sh_u2 (sh_u2 (sh_u2 I 0 0 0) 12 s 5) 15 s 0) 16 s (-1))) := by
      rw [← hR.2]; simp [mk_K, sh_u2]
    have hcnt := mo_cnt8 (mq := mq) (B := B) (D := D) (fun z hz => (hR.1.2.1 z hz).2.2.2.2.2.2.2.1)
    exact .inr ⟨_, _, n', h', _, _, g1, g2, g3, mk_A_lo (by omega), mk_Aold, g4, mk_C (dm := []) (mb_Mod_make_k5_0_2 hs z1 z3 hneg (by rw [h29]; exact hcnt)), by simp [sh_u2], hR.1⟩
  · have y8 := (H.2.1 s hs).2.2.2.2.2.2.2.1
    have hpos : ¬ I 12 s < 0 := by rcases y8 with q | q | q | q | q | q | q | q <;> first | exact absurd q e12 | (rw [q]; decide)
    have hcl : ¬ cw_cl (K 12 s) = 0 := by rw [(H.2.1 s hs).1]; rcases y8 with q | q | q | q | q | q | q | q <;> first | exact absurd q e12 | (rw [q]; decide)
    exact sm_mkt (I' := I) 3 (by decide) H (ct_Hall_make_k5_2 hs z1 z2 hcl) (mk_C (dm := []) (mb_Mod_make_k5_0_3 hs z1 z3 hpos)) (by decide)
theorem sm_make_6 (H : rl_All K L I D R k c) (hW : sh_CW A K L h) (dom : ∀ (q : Nat) (o : sh_Ob), h q = some o → q < n) (hs : s < 8) : sm_mk A mq B (nI s) 6 z n h K L I D R k c := by
  rcases sm_rng (a := 7) (b := 8) (m := 7) (by decide) (by decide) z with g | ⟨g1, g2, g3⟩ | ⟨e, he, rfl, z1, z2, z3⟩
  · exact sm_mkt (I' := I) 1 (by decide) H (ct_Hall_make_k6_1 hs g) (mx_Mod_make_a6_1 hs g) (by decide)
  · exact sm_mkt (I' := I) 1 (by decide) H (ct_Hall_make_k6_2 hs g1 g2) (mx_Mod_make_a6_2 hs g1 g3) (by decide)
  have w1 := (H.2.1 e he).1
  have w8 := (H.2.1 e he).2.2.2.2.2.2.2.1
  rw [← w1] at w8
  have nolock : ¬ I 12 e = 0 → ¬ I 12 e = 1 → sh_mM mq B md_Mod_make [.ref mq, .int (nI s), .int 6, .int (nI e)] I D (some (.int 0)) (sh_u2 (sh_u2 I 0 0 0) 0 0 2) D := fun a b => mk_C (dm := []) (mb_Mod_make_k6_0_5 hs he a b)
  rcases rl_kdcl w8 with ⟨q, hk, h0⟩ | ⟨hk, h0, hke⟩ | ⟨hk, h0, q⟩ | ⟨hk, h0, q⟩ | ⟨hk, h0, q⟩ | ⟨hk, h0, q⟩
  · rw [w1] at q
    exact sm_mkt (I' := I) 2 (by decide) H (ct_Hall_make_e6_1 hs he hk) (nolock (by rw [q]; decide) (by rw [q]; decide)) (by decide)
  rotate_left
  · rw [w1] at q
    exact sm_mkt (I' := I) 2 (by decide) H (ct_Hall_make_e6_3 hs he (by rw [hk]; decide) hk) (nolock (by rcases q with q | q <;> rw [q] <;> decide) (by rcases q with q | q <;> rw [q] <;> decide)) (by decide)
  · rw [w1] at q
    exact sm_mkt (I' := I) 2 (by decide) H (ct_Hall_make_e6_4 hs he (by rw [hk]; decide) hk) (nolock (by rw [q]; decide) (by rw [q]; decide)) (by decide)
  · rw [w1] at q
    exact sm_mkt (I' := I) 2 (by decide) H (ct_Hall_make_e6_5 hs he (by rw [hk]; decide) hk) (nolock (by rw [q]; decide) (by rw [q]; decide)) (by decide)
  · rw [w1] at q
    exact sm_mkt (I' := I) 2 (by decide) H (ct_Hall_make_e6_6 hs he (by rw [hk]; decide) hk) (nolock (by rw [q]; decide) (by rw [q]; decide)) (by decide)
  rw [w1] at hke
  by_cases e12 : I 12 s = -1
  · have hneg : I 12 s < 0 := by rw [e12]; decide
    have hes : e ≠ s := fun q => by rw [q, e12] at hke; exact absurd hke (by decide)
    have h12 : I 12 s = -1 := e12
    have ab := rl_absent H hs h12
    have y := H.2.1 s hs
    have hR := rl_make (kd := 6) (p := 0) (lk := (nI e)) (rl_00 (x := 0) H) hs ((sh_u2_row (by decide) s).trans h12) (by unfold rl_kd; decide) (by decide) ⟨0, by omega, rfl, .inl rfl⟩ (fun _ => ⟨e, he, rfl, by rw [show sh_u2 I 0 0 0 12 e = I 12 e from sh_u2_row (by decide) e]; exact hke⟩)
    obtain ⟨n', h', g1, g2, g3, g4⟩ := cm_make_6 (n := n) (rl_mkok H hs h12) hW dom (y.2.1.trans ab.2.1) (y.2.2.1.trans ab.2.2.1) (y.2.2.2.2.2.1.trans ab.2.2.2.2.1) (y.2.2.2.2.2.2.1.trans ab.2.2.2.2.2.1) (by rw [(H.2.2.2.1 s hs).1.1, ab.1]; rfl) (fun t ht => (y.2.2.2.2.2.2.2.2.2.2.2.2.2 t ht).1.trans (ab.2.2.2.2.2.2 t ht)) he hes hk
    have h29 : K 29 0 + 1 = nI (rl_cnt (sh_u2 (sh_u2 (sh_u2 (sh_u2 I 0 0 0) 12 s 6) 15 s 0) 16 s (nI e))) := by
      rw [← hR.2]; simp [mk_K, sh_u2]
    have hcnt := mo_cnt8 (mq := mq) (B := B) (D := D) (fun z hz => (hR.1.2.1 z hz).2.2.2.2.2.2.2.1)
    have hMod : ∀ {v9 : Option Value} {I9 : sh_II} {D9 : sh_DD}, sh_mW mq B md_Mod_make (168, [(0, .ref mq), (5, .int 0), (6, .int 0)], []) (sh_u2 (sh_u2 (sh_u2 (sh_u2 I 0 0 0) 12 s 6) 15 s 0) 16 s (nI e)) D 0 0 v9 I9 D9 → sh_mW mq B md_Mod_make (0, [(0, .ref mq), (1, .int (nI s)), (2, .int 6), (3, .int (nI e))], []) I D 0 0 v9 I9 D9 := fun k9 => by
      by_cases q0 : I 12 e = 0
      · exact mb_Mod_make_k6_0_1 hs he q0 hneg k9
      · exact mb_Mod_make_k6_0_3 hs he q0 (hke.resolve_left q0) hneg k9
    exact .inr ⟨_, _, n', h', _, _, g1, g2, g3, mk_A_lo (by omega), mk_Aold, g4, mk_C (dm := []) (hMod (by rw [h29]; exact hcnt)), by simp [sh_u2], hR.1⟩
  · have y8 := (H.2.1 s hs).2.2.2.2.2.2.2.1
    have hpos : ¬ I 12 s < 0 := by rcases y8 with q | q | q | q | q | q | q | q <;> first | exact absurd q e12 | (rw [q]; decide)
    have hcl : ¬ cw_cl (K 12 s) = 0 := by rw [(H.2.1 s hs).1]; rcases y8 with q | q | q | q | q | q | q | q <;> first | exact absurd q e12 | (rw [q]; decide)
    by_cases q0 : I 12 e = 0
    · exact sm_mkt (I' := I) 3 (by decide) H (ct_Hall_make_e6_2 hs he (by rw [hk]; decide) hk hcl) (mk_C (dm := []) (mb_Mod_make_k6_0_2 hs he q0 hpos)) (by decide)
    · exact sm_mkt (I' := I) 3 (by decide) H (ct_Hall_make_e6_2 hs he (by rw [hk]; decide) hk hcl) (mk_C (dm := []) (mb_Mod_make_k6_0_4 hs he q0 (hke.resolve_left q0) hpos)) (by decide)
theorem sm_make (H : rl_All K L I D R k c) (hW : sh_CW A K L h) (dom : ∀ (q : Nat) (o : sh_Ob), h q = some o → q < n) : sm_mk A mq B x o z n h K L I D R k c := by
  rcases sm_rng (a := 6) (b := 7) (m := 6) (by decide) (by decide) o with g | ⟨g1, g2, g3⟩ | ⟨w, hw, rfl, -⟩
  · have o2 : o < 2 := by
      rw [Int32.lt_iff_toInt_lt] at g ⊢
      have : (0 : Int32).toInt = 0 := by decide
      have : (2 : Int32).toInt = 2 := by decide
      omega
    have o6 : ¬ o = 6 := fun e => by rw [e] at g; exact absurd g (by decide)
    rcases sm_rng (a := 7) (b := 8) (m := 7) (by decide) (by decide) x with q | ⟨q1, q2, q3⟩ | ⟨s, hs, e, q1, q2, q3⟩
    · exact sm_mkt (I' := I) 1 (by decide) H (ct_Hall_make_x_1 q) (mx_Mod_make_x_7 o2 o6 q) (by decide)
    · exact sm_mkt (I' := I) 1 (by decide) H (ct_Hall_make_x_20 q1 q2) (mx_Mod_make_x_12 o2 o6 q1 q3) (by decide)
    · exact sm_mkt (I' := I) 1 (by decide) H (by rw [e]; exact ct_Hall_make_o_1 hs g) (mx_Mod_make_x_8 o2 o6 q1 q3 g) (by decide)
  · have o7 : ¬ o < 7 := g3
    have o2 : ¬ o < 2 := by
      rw [Int32.lt_iff_toInt_lt] at g3 ⊢
      have : (7 : Int32).toInt = 7 := by decide
      have : (2 : Int32).toInt = 2 := by decide
      omega
    have o4 : 4 < o := by
      rw [Int32.lt_iff_toInt_lt] at g3 ⊢
      have : (7 : Int32).toInt = 7 := by decide
      have : (4 : Int32).toInt = 4 := by decide
      omega
    have o6 : ¬ o = 6 := fun e => by rw [e] at g3; exact absurd (by decide) g3
    rcases sm_rng (a := 7) (b := 8) (m := 7) (by decide) (by decide) x with q | ⟨q1, q2, q3⟩ | ⟨s, hs, e, q1, q2, q3⟩
    · exact sm_mkt (I' := I) 1 (by decide) H (ct_Hall_make_x_1 q) (mx_Mod_make_x_19 o2 o4 o6 q) (by decide)
    · exact sm_mkt (I' := I) 1 (by decide) H (ct_Hall_make_x_20 q1 q2) (mx_Mod_make_x_24 o2 o4 o6 q1 q3) (by decide)
    · exact sm_mkt (I' := I) 1 (by decide) H (by rw [e]; exact ct_Hall_make_o_23 hs g1 g2) (mx_Mod_make_x_23 o2 o4 o6 q1 q3 g1 o7) (by decide)
  rcases sm_rng (a := 7) (b := 8) (m := 7) (by decide) (by decide) x with q | ⟨q1, q2, q3⟩ | ⟨s, hs, rfl, q1, q2, q3⟩
  · rcases w with _ | _ | _ | _ | _ | _ | _ | w
    · exact sm_mkt (I' := I) 1 (by decide) H (ct_Hall_make_x_1 q) (mx_Mod_make_x0_1 q) (by decide)
    · exact sm_mkt (I' := I) 1 (by decide) H (ct_Hall_make_x_1 q) (mx_Mod_make_x1_1 q) (by decide)
    · exact sm_mkt (I' := I) 1 (by decide) H (ct_Hall_make_x_1 q) (mx_Mod_make_x2_1 q) (by decide)
    · exact sm_mkt (I' := I) 1 (by decide) H (ct_Hall_make_x_1 q) (mx_Mod_make_x3_1 q) (by decide)
    · exact sm_mkt (I' := I) 1 (by decide) H (ct_Hall_make_x_1 q) (mx_Mod_make_x4_1 q) (by decide)
    · exact sm_mkt (I' := I) 1 (by decide) H (ct_Hall_make_x_1 q) (mx_Mod_make_x5_1 q) (by decide)
    · exact sm_mkt (I' := I) 1 (by decide) H (ct_Hall_make_x_1 q) (mx_Mod_make_x6_1 q) (by decide)
    · omega
  · rcases w with _ | _ | _ | _ | _ | _ | _ | w
    · exact sm_mkt (I' := I) 1 (by decide) H (ct_Hall_make_x_20 q1 q2) (mx_Mod_make_x0_4 q1 q3) (by decide)
    · exact sm_mkt (I' := I) 1 (by decide) H (ct_Hall_make_x_20 q1 q2) (mx_Mod_make_x1_4 q1 q3) (by decide)
    · exact sm_mkt (I' := I) 1 (by decide) H (ct_Hall_make_x_20 q1 q2) (mx_Mod_make_x2_4 q1 q3) (by decide)
    · exact sm_mkt (I' := I) 1 (by decide) H (ct_Hall_make_x_20 q1 q2) (mx_Mod_make_x3_4 q1 q3) (by decide)
    · exact sm_mkt (I' := I) 1 (by decide) H (ct_Hall_make_x_20 q1 q2) (mx_Mod_make_x4_4 q1 q3) (by decide)
    · exact sm_mkt (I' := I) 1 (by decide) H (ct_Hall_make_x_20 q1 q2) (mx_Mod_make_x5_4 q1 q3) (by decide)
    · exact sm_mkt (I' := I) 1 (by decide) H (ct_Hall_make_x_20 q1 q2) (mx_Mod_make_x6_4 q1 q3) (by decide)
    · omega
  · rcases w with _ | _ | _ | _ | _ | _ | _ | w
    · exact sm_make_0 H hW dom hs
    · exact sm_make_1 H hW dom hs
    · exact sm_make_2 H hW dom hs
    · exact sm_make_3 H hW dom hs
    · exact sm_make_4 H hW dom hs
    · exact sm_make_5 H hW dom hs
    · exact sm_make_6 H hW dom hs
    · omega
end SMK
