/-! make: the class's world with a new sync -/
section MKW
variable {A : Nat → Nat} {K : sh_II} {L : sh_DD} {n s : Nat} {kd p lk : Int32} {h h' : sh_Hp}
def mk_A (A : Nat → Nat) (n s : Nat) : Nat → Nat := fun j => if j = 20 + s then n else if j = 30 + s then n + 1 else if j = 40 + s then n + 2 else if j = 50 + s then n + 3 else A j
theorem mk_A_ne {j : Nat} (h1 : ¬ j = 20 + s) (h2 : ¬ j = 30 + s) (h3 : ¬ j = 40 + s) (h4 : ¬ j = 50 + s) : mk_A A n s j = A j := by
  unfold mk_A
  rw [if_neg h1, if_neg h2, if_neg h3, if_neg h4]
theorem mk_A_lo {j : Nat} (h1 : j < 20) : mk_A A n s j = A j := mk_A_ne (by omega) (by omega) (by omega) (by omega)
theorem mk_on1 : cw_on (-1) = none := by decide
theorem mk_on {u : Nat} (hu : u < 2 ^ 31) : cw_on (nI u) = some u := by
  unfold cw_on
  rw [if_neg (nI_pos hu), nI_clamp hu]
theorem mk_rf10 {x : Int32} (hx : x = -1 ∨ ∃ u, u < 6 ∧ x = nI u) : cw_rf (mk_A A n s) 10 x = cw_rf A 10 x := by
  unfold cw_rf
  rcases hx with e | ⟨u, hu, e⟩
  · rw [e, mk_on1]; rfl
  · rw [e, mk_on (by omega)]
    show va_rf (some (mk_A A n s (10 + u))) = va_rf (some (A (10 + u)))
    rw [mk_A_lo (by omega)]
theorem mk_rf20 {x : Int32} (hs : s < 8) (hx : x = -1 ∨ ∃ u, u < 8 ∧ u ≠ s ∧ x = nI u) : cw_rf (mk_A A n s) 20 x = cw_rf A 20 x := by
  unfold cw_rf
  rcases hx with e | ⟨u, hu, hne, e⟩
  · rw [e, mk_on1]; rfl
  · rw [e, mk_on (by omega)]
    show va_rf (some (mk_A A n s (20 + u))) = va_rf (some (A (20 + u)))
    rw [mk_A_ne (by omega) (by omega) (by omega) (by omega)]
theorem mk_fa {m : Nat} {f g : Nat → Value} (hfg : ∀ i, i < m → f i = g i) : sh_fa m f = sh_fa m g := by
  unfold sh_fa
  exact List.map_congr_left (fun i hi => hfg i (List.mem_range.mp hi))
/-- what make asks of the numbers -/
def mk_ok (K : sh_II) (s : Nat) : Prop := s < 8 ∧ (∀ t, t < 6 → K 5 t = -1 ∨ ∃ u, u < 8 ∧ u ≠ s ∧ K 5 t = nI u) ∧ (∀ z, z < 8 → K 13 z = -1 ∨ ∃ u, u < 6 ∧ K 13 z = nI u) ∧ (∀ z, z < 8 → cw_cl (K 12 z) = 8 → ∃ u, u < 8 ∧ u ≠ s ∧ K 16 z = nI u) ∧ (∀ z, z < 8 → rl_st K z) ∧ cw_cl (K 12 s) = 0
theorem mk_e {r c : Nat} (h18 : ¬ r = 18) (h12 : ¬ r = 12) (h15 : ¬ r = 15) (h16 : ¬ r = 16) (h29 : ¬ r = 29) : mk_K K s kd p lk r c = K r c := by
  simp [mk_K, sh_u2, h18, h12, h15, h16, h29]
theorem mk_es {r z : Nat} (hr : r = 12 ∨ r = 15 ∨ r = 16) (hz : ¬ z = s) : mk_K K s kd p lk r z = K r z := by
  rcases hr with h | h | h <;> subst h <;> simp [mk_K, sh_u2, hz]
theorem mk_e18 {z i : Nat} (hz : ¬ z = s) (hi : i < 6) : mk_K K s kd p lk 18 (6 * z + i) = K 18 (6 * z + i) := by
  have : ¬ (6 * s ≤ 6 * z + i ∧ 6 * z + i < 6 * s + 6) := by omega
  simp [mk_K, sh_u2, this]
theorem mk_sy {z : Nat} (hk : mk_ok K s) (hz8 : z < 8) (hz : ¬ z = s) : cw_sy (mk_A A n s) (mk_K K s kd p lk) L z = cw_sy A K L z := by
  obtain ⟨hs, h5, h13, h16, h18, hc⟩ := hk
  have e12 := mk_es (K := K) (kd := kd) (p := p) (lk := lk) (r := 12) (.inl rfl) hz
  have e15 := mk_es (K := K) (kd := kd) (p := p) (lk := lk) (r := 15) (.inr (.inl rfl)) hz
  have e16 := mk_es (K := K) (kd := kd) (p := p) (lk := lk) (r := 16) (.inr (.inr rfl)) hz
  have a30 : mk_A A n s (30 + z) = A (30 + z) := mk_A_ne (by omega) (by omega) (by omega) (by omega)
  have a50 : mk_A A n s (50 + z) = A (50 + z) := mk_A_ne (by omega) (by omega) (by omega) (by omega)
  unfold cw_sy
  rw [e12]
  split
  · unfold cw_lock
    rw [e12, a30, mk_e (r := 21) (by decide) (by decide) (by decide) (by decide) (by decide), mk_e (r := 13) (by decide) (by decide) (by decide) (by decide) (by decide), mk_e (r := 14) (by decide) (by decide) (by decide) (by decide) (by decide), mk_rf10 (h13 z hz8)]
  split
  · unfold cw_sema
    rw [e12, a30, mk_e (r := 21) (by decide) (by decide) (by decide) (by decide) (by decide), e15]
  split
  · unfold cw_sema
    rw [e12, a30, mk_e (r := 21) (by decide) (by decide) (by decide) (by decide) (by decide), e15]
  split
  · unfold cw_shar
    rw [e12, a30, a50, mk_e (r := 21) (by decide) (by decide) (by decide) (by decide) (by decide), mk_e (r := 13) (by decide) (by decide) (by decide) (by decide) (by decide), mk_e (r := 14) (by decide) (by decide) (by decide) (by decide) (by decide), mk_rf10 (h13 z hz8)]
  split
  · rename_i hc8
    unfold cw_cond
    rw [e12, a30, mk_e (r := 21) (by decide) (by decide) (by decide) (by decide) (by decide), e16, mk_rf20 hs (.inr (h16 z hz8 hc8))]
  · rfl
theorem mk_same {j : Nat} (hk : mk_ok K s) (hj0 : ¬ j = 0) (hj2 : ¬ j = 2) (h20 : ¬ j = 20 + s) (h30 : ¬ j = 30 + s) (h40 : ¬ j = 40 + s) (h50 : ¬ j = 50 + s) : cw_ob (mk_A A n s) (mk_K K s kd p lk) L j = cw_ob A K L j := by
  have hk0 := hk
  obtain ⟨hs, h5, h13, h16, h18, hc⟩ := hk
  unfold cw_ob
  simp only [hj0, hj2, if_false]
  by_cases h1 : j = 1
  · simp only [h1, if_true]
    rw [mk_fa (fun t ht => by rw [mk_A_lo (by omega)])]
  simp only [h1, if_false]
  by_cases h3 : j = 3
  · simp only [h3, if_true]
    unfold cw_ord
    rw [mk_A_lo (by omega), mk_e (by decide) (by decide) (by decide) (by decide) (by decide), mk_e (by decide) (by decide) (by decide) (by decide) (by decide)]
  simp only [h3, if_false]
  by_cases h4 : j = 4
  · simp only [h4, if_true]
    rw [mk_fa (fun t ht => by rw [mk_e (by decide) (by decide) (by decide) (by decide) (by decide)])]
  simp only [h4, if_false]
  by_cases h10 : j < 10
  · simp only [h10, if_true]
  simp only [h10, if_false]
  by_cases h16' : j < 16
  · simp only [h16', if_true]
    unfold cw_wk
    rw [mk_e (r := 2) (by decide) (by decide) (by decide) (by decide) (by decide), mk_e (r := 4) (by decide) (by decide) (by decide) (by decide) (by decide), mk_e (r := 5) (by decide) (by decide) (by decide) (by decide) (by decide), mk_e (r := 6) (by decide) (by decide) (by decide) (by decide) (by decide), mk_e (r := 26) (by decide) (by decide) (by decide) (by decide) (by decide), mk_e (r := 9) (by decide) (by decide) (by decide) (by decide) (by decide), mk_e (r := 10) (by decide) (by decide) (by decide) (by decide) (by decide), mk_e (r := 27) (by decide) (by decide) (by decide) (by decide) (by decide), mk_rf20 hs (h5 (j - 10) (by omega))]
  simp only [h16', if_false]
  by_cases h20' : j < 20
  · simp only [h20', if_true]
  simp only [h20', if_false]
  by_cases h28 : j < 28
  · simp only [h28, if_true]
    exact mk_sy hk0 (by omega) (by omega)
  simp only [h28, if_false]
  by_cases h30' : j < 30
  · simp only [h30', if_true]
  simp only [h30', if_false]
  by_cases h38 : j < 38
  · simp only [h38, if_true]
    rw [mk_es (r := 12) (.inl rfl) (show ¬ j - 30 = s by omega)]
    unfold cw_wt
    rw [mk_e (by decide) (by decide) (by decide) (by decide) (by decide), mk_A_ne (by omega) (by omega) (by omega) (by omega)]
  simp only [h38, if_false]
  by_cases h40' : j < 40
  · simp only [h40', if_true]
  simp only [h40', if_false]
  by_cases h48 : j < 48
  · simp only [h48, if_true]
    rw [mk_es (r := 12) (.inl rfl) (show ¬ j - 40 = s by omega), mk_fa (fun i hi => by rw [mk_e18 (show ¬ j - 40 = s by omega) hi, mk_rf10 (h18 (j - 40) (by omega) i hi)])]
  simp only [h48, if_false]
  by_cases h50' : j < 50
  · simp only [h50', if_true]
  simp only [h50', if_false]
  by_cases h58 : j < 58
  · simp only [h58, if_true]
    rw [mk_es (r := 12) (.inl rfl) (show ¬ j - 50 = s by omega), mk_fa (fun i hi => by rw [mk_e (by decide) (by decide) (by decide) (by decide) (by decide)])]
  simp only [h58, if_false]
end MKW
