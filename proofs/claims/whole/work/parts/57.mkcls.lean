/-! make: what the class does where nothing is wrong -/
section MKC
variable {A : Nat → Nat} {K : sh_II} {L : sh_DD} {n s : Nat} {h : sh_Hp} {z : Int32}
theorem cm_make_0 (hk : mk_ok K s) (hW : sh_CW A K L h) (dom : ∀ (q : Nat) (o : sh_Ob), h q = some o → q < n) (d13 : K 13 s = -1) (d14 : K 14 s = 0) (d21 : K 21 s = 0) (d20 : L 20 s = FP.dconst0) (h19 : K 19 s = 0) (h17 : ∀ t, t < 6 → K 17 (6 * s + t) = 0) (hz0 : ¬ z < 0) (hz1 : z ≤ 0) :
    ∃ n' h', n ≤ n' ∧ sh_CW (mk_A A n s) (mk_K K s 0 0 (-1)) L h' ∧ (∀ q, q < n → q ≠ A 0 → q ≠ A 2 → h' q = h q) ∧ sh_M md_Hall_make [.ref (A 0), .int (nI s), .int 0, .int z] (n, h) (.inl (some (.int (K 29 0 + 1)), (n', h'))) := by
  have f0 := hW.1 0 _ rfl
  have f2 := hW.1 2 _ rfl
  have hne : A 0 ≠ A 2 := fun e => by
    have := hW.2 0 2 rfl rfl e
    omega
  have hv : (sh_fa 8 (fun z => if cw_cl (K 12 z) = 0 then .null else .ref (A (20 + z))))[(nI s).toNatClampNeg]? = some .null := by
    rw [nI_clamp (by have := hk.1; omega), sh_fa_get _ hk.1, if_pos hk.2.2.2.2.2]
  have eo : cw_sy (mk_A A n s) (mk_K K s 0 0 (-1)) L s = some (false, 4, [.int 0, .ref (n + 1), .double FP.dconst0, .int 0, .null, .int 0]) := by
    unfold cw_sy
    rw [mk_12s, if_pos (by decide)]
    unfold cw_lock
    rw [mk_12s, mk_A30, d20, mk_e (r := 21) (by decide) (by decide) (by decide) (by decide) (by decide), d21, mk_e (r := 13) (by decide) (by decide) (by decide) (by decide) (by decide), d13, mk_e (r := 14) (by decide) (by decide) (by decide) (by decide) (by decide), d14]
    rfl
  obtain ⟨n', h', ⟨en, p0, p2, po, pw, pr, pf⟩, hM⟩ := sx_Hall_make_k0 (n := n) (h := h) (x := nI s) (z := z) (dom _ _ f0) f0 (dom _ _ f2) f2 hne (nI_pos (by have := hk.1; omega)) (nI_le (b := 7) (by have := hk.1; omega) (by decide)) hv hz0 hz1
  rw [nI_clamp (by have := hk.1; omega)] at p2
  have hF : ∀ q, q < n → q ≠ A 0 → q ≠ A 2 → h' q = h q := pf
  exact ⟨n', h', by omega, mk_CW hk hW dom (by decide) h19 h17 p0 p2 (fun o ho => by rw [eo] at ho; cases ho; exact po) pw pr (fun q => absurd q (by decide)) hF, hF, hM⟩
theorem cm_make_1 (hk : mk_ok K s) (hW : sh_CW A K L h) (dom : ∀ (q : Nat) (o : sh_Ob), h q = some o → q < n) (d13 : K 13 s = -1) (d14 : K 14 s = 0) (d21 : K 21 s = 0) (d20 : L 20 s = FP.dconst0) (h19 : K 19 s = 0) (h17 : ∀ t, t < 6 → K 17 (6 * s + t) = 0) (hz0 : ¬ z < 0) (hz1 : z ≤ 0) :
    ∃ n' h', n ≤ n' ∧ sh_CW (mk_A A n s) (mk_K K s 1 0 (-1)) L h' ∧ (∀ q, q < n → q ≠ A 0 → q ≠ A 2 → h' q = h q) ∧ sh_M md_Hall_make [.ref (A 0), .int (nI s), .int 1, .int z] (n, h) (.inl (some (.int (K 29 0 + 1)), (n', h'))) := by
  have f0 := hW.1 0 _ rfl
  have f2 := hW.1 2 _ rfl
  have hne : A 0 ≠ A 2 := fun e => by
    have := hW.2 0 2 rfl rfl e
    omega
  have hv : (sh_fa 8 (fun z => if cw_cl (K 12 z) = 0 then .null else .ref (A (20 + z))))[(nI s).toNatClampNeg]? = some .null := by
    rw [nI_clamp (by have := hk.1; omega), sh_fa_get _ hk.1, if_pos hk.2.2.2.2.2]
  have eo : cw_sy (mk_A A n s) (mk_K K s 1 0 (-1)) L s = some (false, 4, [.int 1, .ref (n + 1), .double FP.dconst0, .int 0, .null, .int 0]) := by
    unfold cw_sy
    rw [mk_12s, if_pos (by decide)]
    unfold cw_lock
    rw [mk_12s, mk_A30, d20, mk_e (r := 21) (by decide) (by decide) (by decide) (by decide) (by decide), d21, mk_e (r := 13) (by decide) (by decide) (by decide) (by decide) (by decide), d13, mk_e (r := 14) (by decide) (by decide) (by decide) (by decide) (by decide), d14]
    rfl
  obtain ⟨n', h', ⟨en, p0, p2, po, pw, pr, pf⟩, hM⟩ := sx_Hall_make_k1 (n := n) (h := h) (x := nI s) (z := z) (dom _ _ f0) f0 (dom _ _ f2) f2 hne (nI_pos (by have := hk.1; omega)) (nI_le (b := 7) (by have := hk.1; omega) (by decide)) hv hz0 hz1
  rw [nI_clamp (by have := hk.1; omega)] at p2
  have hF : ∀ q, q < n → q ≠ A 0 → q ≠ A 2 → h' q = h q := pf
  exact ⟨n', h', by omega, mk_CW hk hW dom (by decide) h19 h17 p0 p2 (fun o ho => by rw [eo] at ho; cases ho; exact po) pw pr (fun q => absurd q (by decide)) hF, hF, hM⟩
theorem cm_make_2 (hk : mk_ok K s) (hW : sh_CW A K L h) (dom : ∀ (q : Nat) (o : sh_Ob), h q = some o → q < n) (d13 : K 13 s = -1) (d14 : K 14 s = 0) (d21 : K 21 s = 0) (d20 : L 20 s = FP.dconst0) (h19 : K 19 s = 0) (h17 : ∀ t, t < 6 → K 17 (6 * s + t) = 0) (hz0 : ¬ z < 0) (hz1 : z ≤ 5) :
    ∃ n' h', n ≤ n' ∧ sh_CW (mk_A A n s) (mk_K K s 2 z (-1)) L h' ∧ (∀ q, q < n → q ≠ A 0 → q ≠ A 2 → h' q = h q) ∧ sh_M md_Hall_make [.ref (A 0), .int (nI s), .int 2, .int z] (n, h) (.inl (some (.int (K 29 0 + 1)), (n', h'))) := by
  have f0 := hW.1 0 _ rfl
  have f2 := hW.1 2 _ rfl
  have hne : A 0 ≠ A 2 := fun e => by
    have := hW.2 0 2 rfl rfl e
    omega
  have hv : (sh_fa 8 (fun z => if cw_cl (K 12 z) = 0 then .null else .ref (A (20 + z))))[(nI s).toNatClampNeg]? = some .null := by
    rw [nI_clamp (by have := hk.1; omega), sh_fa_get _ hk.1, if_pos hk.2.2.2.2.2]
  have eo : cw_sy (mk_A A n s) (mk_K K s 2 z (-1)) L s = some (false, 5, [.int 2, .ref (n + 1), .double FP.dconst0, .int 0, .int z]) := by
    unfold cw_sy
    rw [mk_12s, if_neg (by decide), if_pos (by decide)]
    unfold cw_sema
    rw [mk_12s, mk_A30, d20, mk_e (r := 21) (by decide) (by decide) (by decide) (by decide) (by decide), d21, show mk_K K s 2 z (-1) 15 s = z by simp [mk_K, sh_u2]]
    skip
  obtain ⟨n', h', ⟨en, p0, p2, po, pw, pr, pf⟩, hM⟩ := sx_Hall_make_k2 (n := n) (h := h) (x := nI s) (z := z) (dom _ _ f0) f0 (dom _ _ f2) f2 hne (nI_pos (by have := hk.1; omega)) (nI_le (b := 7) (by have := hk.1; omega) (by decide)) hv hz0 hz1
  rw [nI_clamp (by have := hk.1; omega)] at p2
  have hF : ∀ q, q < n → q ≠ A 0 → q ≠ A 2 → h' q = h q := pf
  exact ⟨n', h', by omega, mk_CW hk hW dom (by decide) h19 h17 p0 p2 (fun o ho => by rw [eo] at ho; cases ho; exact po) pw pr (fun q => absurd q (by decide)) hF, hF, hM⟩
theorem cm_make_3 (hk : mk_ok K s) (hW : sh_CW A K L h) (dom : ∀ (q : Nat) (o : sh_Ob), h q = some o → q < n) (d13 : K 13 s = -1) (d14 : K 14 s = 0) (d21 : K 21 s = 0) (d20 : L 20 s = FP.dconst0) (h19 : K 19 s = 0) (h17 : ∀ t, t < 6 → K 17 (6 * s + t) = 0) (hz0 : ¬ z < 0) (hz1 : z ≤ 5) :
    ∃ n' h', n ≤ n' ∧ sh_CW (mk_A A n s) (mk_K K s 3 z (-1)) L h' ∧ (∀ q, q < n → q ≠ A 0 → q ≠ A 2 → h' q = h q) ∧ sh_M md_Hall_make [.ref (A 0), .int (nI s), .int 3, .int z] (n, h) (.inl (some (.int (K 29 0 + 1)), (n', h'))) := by
  have f0 := hW.1 0 _ rfl
  have f2 := hW.1 2 _ rfl
  have hne : A 0 ≠ A 2 := fun e => by
    have := hW.2 0 2 rfl rfl e
    omega
  have hv : (sh_fa 8 (fun z => if cw_cl (K 12 z) = 0 then .null else .ref (A (20 + z))))[(nI s).toNatClampNeg]? = some .null := by
    rw [nI_clamp (by have := hk.1; omega), sh_fa_get _ hk.1, if_pos hk.2.2.2.2.2]
  have eo : cw_sy (mk_A A n s) (mk_K K s 3 z (-1)) L s = some (false, 5, [.int 3, .ref (n + 1), .double FP.dconst0, .int 0, .int z]) := by
    unfold cw_sy
    rw [mk_12s, if_neg (by decide), if_pos (by decide)]
    unfold cw_sema
    rw [mk_12s, mk_A30, d20, mk_e (r := 21) (by decide) (by decide) (by decide) (by decide) (by decide), d21, show mk_K K s 3 z (-1) 15 s = z by simp [mk_K, sh_u2]]
    skip
  obtain ⟨n', h', ⟨en, p0, p2, po, pw, pr, pf⟩, hM⟩ := sx_Hall_make_k3 (n := n) (h := h) (x := nI s) (z := z) (dom _ _ f0) f0 (dom _ _ f2) f2 hne (nI_pos (by have := hk.1; omega)) (nI_le (b := 7) (by have := hk.1; omega) (by decide)) hv hz0 hz1
  rw [nI_clamp (by have := hk.1; omega)] at p2
  have hF : ∀ q, q < n → q ≠ A 0 → q ≠ A 2 → h' q = h q := pf
  exact ⟨n', h', by omega, mk_CW hk hW dom (by decide) h19 h17 p0 p2 (fun o ho => by rw [eo] at ho; cases ho; exact po) pw pr (fun q => absurd q (by decide)) hF, hF, hM⟩
theorem cm_make_4 (hk : mk_ok K s) (hW : sh_CW A K L h) (dom : ∀ (q : Nat) (o : sh_Ob), h q = some o → q < n) (d13 : K 13 s = -1) (d14 : K 14 s = 0) (d21 : K 21 s = 0) (d20 : L 20 s = FP.dconst0) (h19 : K 19 s = 0) (h17 : ∀ t, t < 6 → K 17 (6 * s + t) = 0) (hz0 : ¬ z < 0) (hz1 : z ≤ 5) :
    ∃ n' h', n ≤ n' ∧ sh_CW (mk_A A n s) (mk_K K s 4 z (-1)) L h' ∧ (∀ q, q < n → q ≠ A 0 → q ≠ A 2 → h' q = h q) ∧ sh_M md_Hall_make [.ref (A 0), .int (nI s), .int 4, .int z] (n, h) (.inl (some (.int (K 29 0 + 1)), (n', h'))) := by
  have f0 := hW.1 0 _ rfl
  have f2 := hW.1 2 _ rfl
  have hne : A 0 ≠ A 2 := fun e => by
    have := hW.2 0 2 rfl rfl e
    omega
  have hv : (sh_fa 8 (fun z => if cw_cl (K 12 z) = 0 then .null else .ref (A (20 + z))))[(nI s).toNatClampNeg]? = some .null := by
    rw [nI_clamp (by have := hk.1; omega), sh_fa_get _ hk.1, if_pos hk.2.2.2.2.2]
  have eo : cw_sy (mk_A A n s) (mk_K K s 4 z (-1)) L s = some (false, 6, [.int 4, .ref (n + 1), .double FP.dconst0, .int 0, .int z]) := by
    unfold cw_sy
    rw [mk_12s, if_neg (by decide), if_neg (by decide), if_pos (by decide)]
    unfold cw_sema
    rw [mk_12s, mk_A30, d20, mk_e (r := 21) (by decide) (by decide) (by decide) (by decide) (by decide), d21, show mk_K K s 4 z (-1) 15 s = z by simp [mk_K, sh_u2]]
    skip
  obtain ⟨n', h', ⟨en, p0, p2, po, pw, pr, pf⟩, hM⟩ := sx_Hall_make_k4 (n := n) (h := h) (x := nI s) (z := z) (dom _ _ f0) f0 (dom _ _ f2) f2 hne (nI_pos (by have := hk.1; omega)) (nI_le (b := 7) (by have := hk.1; omega) (by decide)) hv hz0 hz1
  rw [nI_clamp (by have := hk.1; omega)] at p2
  have hF : ∀ q, q < n → q ≠ A 0 → q ≠ A 2 → h' q = h q := pf
  exact ⟨n', h', by omega, mk_CW hk hW dom (by decide) h19 h17 p0 p2 (fun o ho => by rw [eo] at ho; cases ho; exact po) pw pr (fun q => absurd q (by decide)) hF, hF, hM⟩
theorem cm_make_5 (hk : mk_ok K s) (hW : sh_CW A K L h) (dom : ∀ (q : Nat) (o : sh_Ob), h q = some o → q < n) (d13 : K 13 s = -1) (d14 : K 14 s = 0) (d21 : K 21 s = 0) (d20 : L 20 s = FP.dconst0) (h19 : K 19 s = 0) (h17 : ∀ t, t < 6 → K 17 (6 * s + t) = 0) (hz0 : ¬ z < 0) (hz1 : z ≤ 0) :
    ∃ n' h', n ≤ n' ∧ sh_CW (mk_A A n s) (mk_K K s 5 0 (-1)) L h' ∧ (∀ q, q < n → q ≠ A 0 → q ≠ A 2 → h' q = h q) ∧ sh_M md_Hall_make [.ref (A 0), .int (nI s), .int 5, .int z] (n, h) (.inl (some (.int (K 29 0 + 1)), (n', h'))) := by
  have f0 := hW.1 0 _ rfl
  have f2 := hW.1 2 _ rfl
  have hne : A 0 ≠ A 2 := fun e => by
    have := hW.2 0 2 rfl rfl e
    omega
  have hv : (sh_fa 8 (fun z => if cw_cl (K 12 z) = 0 then .null else .ref (A (20 + z))))[(nI s).toNatClampNeg]? = some .null := by
    rw [nI_clamp (by have := hk.1; omega), sh_fa_get _ hk.1, if_pos hk.2.2.2.2.2]
  have eo : cw_sy (mk_A A n s) (mk_K K s 5 0 (-1)) L s = some (false, 7, [.int 5, .ref (n + 1), .double FP.dconst0, .int 0, .ref (n + 3), .null, .int 0]) := by
    unfold cw_sy
    rw [mk_12s, if_neg (by decide), if_neg (by decide), if_neg (by decide), if_pos (by decide)]
    unfold cw_shar
    rw [mk_12s, mk_A30, mk_A50, d20, mk_e (r := 21) (by decide) (by decide) (by decide) (by decide) (by decide), d21, mk_e (r := 13) (by decide) (by decide) (by decide) (by decide) (by decide), d13, mk_e (r := 14) (by decide) (by decide) (by decide) (by decide) (by decide), d14]
    rfl
  obtain ⟨n', h', ⟨en, p0, p2, po, pw, pr, pd, pf⟩, hM⟩ := sx_Hall_make_k5 (n := n) (h := h) (x := nI s) (z := z) (dom _ _ f0) f0 (dom _ _ f2) f2 hne (nI_pos (by have := hk.1; omega)) (nI_le (b := 7) (by have := hk.1; omega) (by decide)) hv hz0 hz1
  rw [nI_clamp (by have := hk.1; omega)] at p2
  have hF : ∀ q, q < n → q ≠ A 0 → q ≠ A 2 → h' q = h q := pf
  exact ⟨n', h', by omega, mk_CW hk hW dom (by decide) h19 h17 p0 p2 (fun o ho => by rw [eo] at ho; cases ho; exact po) pw pr (fun _ => pd) hF, hF, hM⟩
theorem cm_make_6 (hk : mk_ok K s) (hW : sh_CW A K L h) (dom : ∀ (q : Nat) (o : sh_Ob), h q = some o → q < n) (d13 : K 13 s = -1) (d14 : K 14 s = 0) (d21 : K 21 s = 0) (d20 : L 20 s = FP.dconst0) (h19 : K 19 s = 0) (h17 : ∀ t, t < 6 → K 17 (6 * s + t) = 0) {e : Nat} (he : e < 8) (hes : e ≠ s) (hke : cw_cl (K 12 e) = 4) :
    ∃ n' h', n ≤ n' ∧ sh_CW (mk_A A n s) (mk_K K s 6 0 (nI e)) L h' ∧ (∀ q, q < n → q ≠ A 0 → q ≠ A 2 → h' q = h q) ∧ sh_M md_Hall_make [.ref (A 0), .int (nI s), .int 6, .int (nI e)] (n, h) (.inl (some (.int (K 29 0 + 1)), (n', h'))) := by
  have f0 := hW.1 0 _ rfl
  have f2 := hW.1 2 _ rfl
  have hne : A 0 ≠ A 2 := fun e => by
    have := hW.2 0 2 rfl rfl e
    omega
  have hv : (sh_fa 8 (fun z => if cw_cl (K 12 z) = 0 then .null else .ref (A (20 + z))))[(nI s).toNatClampNeg]? = some .null := by
    rw [nI_clamp (by have := hk.1; omega), sh_fa_get _ hk.1, if_pos hk.2.2.2.2.2]
  have hsy : cw_ob A K L (20 + e) = some (false, 4, cw_lock A K L e) := by
    unfold cw_ob
    simp only [show ¬ 20 + e = 0 by omega, show ¬ 20 + e = 1 by omega, show ¬ 20 + e = 2 by omega, show ¬ 20 + e = 3 by omega, show ¬ 20 + e = 4 by omega, show ¬ 20 + e < 10 by omega, show ¬ 20 + e < 16 by omega, show ¬ 20 + e < 20 by omega, show 20 + e < 28 by omega, if_true, if_false]
    rw [show 20 + e - 20 = e by omega]
    unfold cw_sy
    rw [if_pos hke]
  have fl := hW.1 (20 + e) _ hsy
  have hu : (sh_fa 8 (fun z => if cw_cl (K 12 z) = 0 then .null else .ref (A (20 + z))))[(nI e).toNatClampNeg]? = some (.ref (A (20 + e))) := by
    rw [nI_clamp (by omega), sh_fa_get _ he, if_neg (by rw [hke]; decide)]
  have hn1 : A (20 + e) ≠ A 0 := fun q => by
    have := hW.2 (20 + e) 0 (by rw [hsy]; rfl) rfl q
    omega
  have hn2 : A (20 + e) ≠ A 2 := fun q => by
    have := hW.2 (20 + e) 2 (by rw [hsy]; rfl) rfl q
    omega
  have eo : cw_sy (mk_A A n s) (mk_K K s 6 0 (nI e)) L s = some (false, 8, [.int 6, .ref (n + 1), .double FP.dconst0, .int 0, .ref (A (20 + e))]) := by
    unfold cw_sy
    rw [mk_12s, if_neg (by decide), if_neg (by decide), if_neg (by decide), if_neg (by decide), if_pos (by decide)]
    unfold cw_cond
    rw [mk_12s, mk_A30, d20, mk_e (r := 21) (by decide) (by decide) (by decide) (by decide) (by decide), d21, show mk_K K s 6 0 (nI e) 16 s = nI e by simp [mk_K, sh_u2], mk_rf20 hk.1 (.inr ⟨e, he, hes, rfl⟩)]
    unfold cw_rf
    rw [cw_on_n (by omega)]
    rfl
  obtain ⟨n', h', ⟨en, p0, p2, pl, po, pw, pr, pf⟩, hM⟩ := sx_Hall_make_k6 (n := n) (h := h) (x := nI s) (z := (nI e)) (dom _ _ f0) f0 (dom _ _ f2) f2 (dom _ _ fl) fl hne (nI_pos (by have := hk.1; omega)) (nI_le (b := 7) (by have := hk.1; omega) (by decide)) hv (nI_pos (by omega)) (nI_le (b := 7) (by omega) (by decide)) hu hn1 hn2
  rw [nI_clamp (by have := hk.1; omega)] at p2
  have hF : ∀ q, q < n → q ≠ A 0 → q ≠ A 2 → h' q = h q := (fun q hq h0 h2 => by
      by_cases el : q = A (20 + e)
      · rw [el, pl]; exact fl.symm
      · exact pf q hq h0 h2 el)
  exact ⟨n', h', by omega, mk_CW hk hW dom (by decide) h19 h17 p0 p2 (fun o ho => by rw [eo] at ho; cases ho; exact po) pw pr (fun q => absurd q (by decide)) hF, hF, hM⟩
end MKC
