/-! make: the new world stands -/
section MKX
variable {A : Nat → Nat} {K : sh_II} {L : sh_DD} {n s : Nat} {kd p lk : Int32} {h h' : sh_Hp}
theorem mk_at20 (hs : s < 8) : cw_ob (mk_A A n s) (mk_K K s kd p lk) L (20 + s) = cw_sy (mk_A A n s) (mk_K K s kd p lk) L s := by
  unfold cw_ob
  simp only [show ¬ 20 + s = 0 by omega, show ¬ 20 + s = 1 by omega, show ¬ 20 + s = 2 by omega, show ¬ 20 + s = 3 by omega, show ¬ 20 + s = 4 by omega, show ¬ 20 + s < 10 by omega, show ¬ 20 + s < 16 by omega, show ¬ 20 + s < 20 by omega, show 20 + s < 28 by omega, if_true, if_false]
  rw [show 20 + s - 20 = s by omega]
theorem mk_at30 (hs : s < 8) : cw_ob (mk_A A n s) (mk_K K s kd p lk) L (30 + s) = if cw_cl (mk_K K s kd p lk 12 s) = 0 then none else some (false, 2, cw_wt (mk_A A n s) (mk_K K s kd p lk) s) := by
  unfold cw_ob
  simp only [show ¬ 30 + s = 0 by omega, show ¬ 30 + s = 1 by omega, show ¬ 30 + s = 2 by omega, show ¬ 30 + s = 3 by omega, show ¬ 30 + s = 4 by omega, show ¬ 30 + s < 10 by omega, show ¬ 30 + s < 16 by omega, show ¬ 30 + s < 20 by omega, show ¬ 30 + s < 28 by omega, show ¬ 30 + s < 30 by omega, show 30 + s < 38 by omega, if_true, if_false]
  rw [show 30 + s - 30 = s by omega]
theorem mk_at40 (hs : s < 8) : cw_ob (mk_A A n s) (mk_K K s kd p lk) L (40 + s) = if cw_cl (mk_K K s kd p lk 12 s) = 0 then none else some (true, 4, sh_fa 6 (fun i => cw_rf (mk_A A n s) 10 (mk_K K s kd p lk 18 (6 * s + i)))) := by
  unfold cw_ob
  simp only [show ¬ 40 + s = 0 by omega, show ¬ 40 + s = 1 by omega, show ¬ 40 + s = 2 by omega, show ¬ 40 + s = 3 by omega, show ¬ 40 + s = 4 by omega, show ¬ 40 + s < 10 by omega, show ¬ 40 + s < 16 by omega, show ¬ 40 + s < 20 by omega, show ¬ 40 + s < 28 by omega, show ¬ 40 + s < 30 by omega, show ¬ 40 + s < 38 by omega, show ¬ 40 + s < 40 by omega, show 40 + s < 48 by omega, if_true, if_false]
  rw [show 40 + s - 40 = s by omega]
theorem mk_at50 (hs : s < 8) : cw_ob (mk_A A n s) (mk_K K s kd p lk) L (50 + s) = if cw_cl (mk_K K s kd p lk 12 s) = 7 then some (true, 0, sh_fa 6 (fun t => .int (mk_K K s kd p lk 17 (6 * s + t)))) else none := by
  unfold cw_ob
  simp only [show ¬ 50 + s = 0 by omega, show ¬ 50 + s = 1 by omega, show ¬ 50 + s = 2 by omega, show ¬ 50 + s = 3 by omega, show ¬ 50 + s = 4 by omega, show ¬ 50 + s < 10 by omega, show ¬ 50 + s < 16 by omega, show ¬ 50 + s < 20 by omega, show ¬ 50 + s < 28 by omega, show ¬ 50 + s < 30 by omega, show ¬ 50 + s < 38 by omega, show ¬ 50 + s < 40 by omega, show ¬ 50 + s < 48 by omega, show ¬ 50 + s < 50 by omega, show 50 + s < 58 by omega, if_true, if_false]
  rw [show 50 + s - 50 = s by omega]
theorem mk_12s : mk_K K s kd p lk 12 s = kd := by simp [mk_K, sh_u2]
theorem mk_A20 : mk_A A n s (20 + s) = n := if_pos rfl
theorem mk_A30 : mk_A A n s (30 + s) = n + 1 := by unfold mk_A; rw [if_neg (by omega), if_pos rfl]
theorem mk_A40 : mk_A A n s (40 + s) = n + 2 := by unfold mk_A; rw [if_neg (by omega), if_neg (by omega), if_pos rfl]
theorem mk_A50 : mk_A A n s (50 + s) = n + 3 := by unfold mk_A; rw [if_neg (by omega), if_neg (by omega), if_neg (by omega), if_pos rfl]
theorem mk_CW (hk : mk_ok K s) (hW : sh_CW A K L h) (dom : ∀ (q : Nat) (o : sh_Ob), h q = some o → q < n) (hkd : ¬ cw_cl kd = 0) (h19 : K 19 s = 0) (h17 : ∀ t, t < 6 → K 17 (6 * s + t) = 0)
    (f0 : h' (A 0) = some (false, 0, [.ref (A 1), .ref (A 2), .ref (A 3), .int (K 29 0 + 1), .double (L 11 0)])) (f2 : h' (A 2) = some (true, 5, (sh_fa 8 (fun z => if cw_cl (K 12 z) = 0 then .null else .ref (A (20 + z)))).set s (.ref n)))
    (fo : ∀ o, cw_sy (mk_A A n s) (mk_K K s kd p lk) L s = some o → h' n = some o) (fw : h' (n + 1) = some (false, 2, [.ref (n + 2), .int 0])) (fr : h' (n + 2) = some (true, 4, List.replicate 6 .null)) (fd : cw_cl kd = 7 → h' (n + 3) = some (true, 0, List.replicate 6 (.int 0))) (fF : ∀ q, q < n → q ≠ A 0 → q ≠ A 2 → h' q = h q) :
    sh_CW (mk_A A n s) (mk_K K s kd p lk) L h' := by
  have hs := hk.1
  have a0 : mk_A A n s 0 = A 0 := mk_A_lo (by omega)
  have a1 : mk_A A n s 1 = A 1 := mk_A_lo (by omega)
  have a2 : mk_A A n s 2 = A 2 := mk_A_lo (by omega)
  have a3 : mk_A A n s 3 = A 3 := mk_A_lo (by omega)
  have al0 : (cw_ob A K L 0).isSome = true := rfl
  have al2 : (cw_ob A K L 2).isSome = true := rfl
  have old : ∀ j, (cw_ob (mk_A A n s) (mk_K K s kd p lk) L j).isSome = true → ¬ j = 20 + s → ¬ j = 30 + s → ¬ j = 40 + s → ¬ j = 50 + s → mk_A A n s j = A j ∧ (cw_ob A K L j).isSome = true ∧ A j < n := fun j hj h1 h2 h3 h4 => by
    have hs' : (cw_ob A K L j).isSome = true := by
      by_cases e0 : j = 0
      · rw [e0]; exact al0
      by_cases e2 : j = 2
      · rw [e2]; exact al2
      rw [mk_same hk e0 e2 h1 h2 h3 h4] at hj; exact hj
    obtain ⟨o, ho⟩ := Option.isSome_iff_exists.mp hs'
    exact ⟨mk_A_ne h1 h2 h3 h4, hs', dom _ _ (hW.1 j o ho)⟩
  refine ⟨fun j o ho => ?_, fun i j hi hj e => ?_⟩
  · by_cases e0 : j = 0
    · subst e0
      rw [a0]
      have : cw_ob (mk_A A n s) (mk_K K s kd p lk) L 0 = some (false, 0, cw_hall (mk_A A n s) (mk_K K s kd p lk) L) := rfl
      rw [this] at ho
      cases ho
      rw [f0]
      unfold cw_hall
      rw [a1, a2, a3, show mk_K K s kd p lk 29 0 = K 29 0 + 1 by simp [mk_K, sh_u2]]
    by_cases e2 : j = 2
    · subst e2
      rw [a2]
      have : cw_ob (mk_A A n s) (mk_K K s kd p lk) L 2 = some (true, 5, sh_fa 8 (fun z => if cw_cl (mk_K K s kd p lk 12 z) = 0 then .null else .ref (mk_A A n s (20 + z)))) := rfl
      rw [this] at ho
      cases ho
      rw [f2, sh_fa_set]
      congr 3
      refine sh_fa_congr (fun z hz => ?_)
      by_cases e : z = s
      · subst e
        rw [if_pos rfl, mk_12s, if_neg hkd, mk_A20]
      · rw [if_neg e, mk_es (.inl rfl) e, mk_A_ne (by omega) (by omega) (by omega) (by omega)]
    by_cases e20 : j = 20 + s
    · subst e20
      rw [mk_at20 hs] at ho
      rw [mk_A20]
      exact fo o ho
    by_cases e30 : j = 30 + s
    · subst e30
      rw [mk_at30 hs, mk_12s, if_neg hkd] at ho
      cases ho
      rw [mk_A30, fw]
      unfold cw_wt
      rw [mk_A40, mk_e (by decide) (by decide) (by decide) (by decide) (by decide), h19]
    by_cases e40 : j = 40 + s
    · subst e40
      rw [mk_at40 hs, mk_12s, if_neg hkd] at ho
      cases ho
      rw [mk_A40, fr, sh_fa_congr (g := fun _ => .null) (fun i hi => by
        rw [show mk_K K s kd p lk 18 (6 * s + i) = -1 by simp [mk_K, hi]]
        rfl)]
      rfl
    by_cases e50 : j = 50 + s
    · subst e50
      rw [mk_at50 hs, mk_12s] at ho
      by_cases h7 : cw_cl kd = 7
      · rw [if_pos h7] at ho
        cases ho
        rw [mk_A50, fd h7, sh_fa_congr (g := fun _ => .int 0) (fun i hi => by
          rw [mk_e (by decide) (by decide) (by decide) (by decide) (by decide), h17 i hi])]
        rfl
      · rw [if_neg h7] at ho; cases ho
    have hj : (cw_ob (mk_A A n s) (mk_K K s kd p lk) L j).isSome = true := by rw [ho]; rfl
    obtain ⟨o1, o2, o3⟩ := old j hj e20 e30 e40 e50
    rw [mk_same hk e0 e2 e20 e30 e40 e50] at ho
    rw [o1, fF _ o3 (fun q => e0 (hW.2 j 0 o2 al0 q)) (fun q => e2 (hW.2 j 2 o2 al2 q))]
    exact hW.1 j o ho
  · have key : ∀ j, (cw_ob (mk_A A n s) (mk_K K s kd p lk) L j).isSome = true → (j = 20 + s ∧ mk_A A n s j = n) ∨ (j = 30 + s ∧ mk_A A n s j = n + 1) ∨ (j = 40 + s ∧ mk_A A n s j = n + 2) ∨ (j = 50 + s ∧ mk_A A n s j = n + 3) ∨ (mk_A A n s j = A j ∧ (cw_ob A K L j).isSome = true ∧ A j < n) := fun j hj => by
      by_cases e20 : j = 20 + s
      · exact .inl ⟨e20, by rw [e20, mk_A20]⟩
      by_cases e30 : j = 30 + s
      · exact .inr (.inl ⟨e30, by rw [e30, mk_A30]⟩)
      by_cases e40 : j = 40 + s
      · exact .inr (.inr (.inl ⟨e40, by rw [e40, mk_A40]⟩))
      by_cases e50 : j = 50 + s
      · exact .inr (.inr (.inr (.inl ⟨e50, by rw [e50, mk_A50]⟩)))
      exact .inr (.inr (.inr (.inr (old j hj e20 e30 e40 e50))))
    rcases key i hi with ⟨i1, i2⟩ | ⟨i1, i2⟩ | ⟨i1, i2⟩ | ⟨i1, i2⟩ | ⟨i1, i2, i3⟩ <;> rcases key j hj with ⟨j1, j2⟩ | ⟨j1, j2⟩ | ⟨j1, j2⟩ | ⟨j1, j2⟩ | ⟨j1, j2, j3⟩
    all_goals first
      | omega
      | exact hW.2 i j i2 j2 (by rw [← i1, ← j1]; exact e)
end MKX
