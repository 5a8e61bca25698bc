theorem sh_u2_self {α : Type} (X : Nat → Nat → α) (r c : Nat) : sh_u2 X r c (X r c) = X := by
  funext a b
  unfold sh_u2
  split
  · rename_i h; rw [h.1, h.2]
  · rfl
def sy_u (X : sh_II) (s t : Nat) (o d p r : Int32) : sh_II := sh_u2 (sh_u2 (sh_u2 (sh_u2 X 13 s o) 14 s d) 15 s p) 17 (6 * s + t) r
def sv_K (K : sh_II) (s t : Nat) (l : List Nat) (o d p r x : Int32) : sh_II := sh_u2 (sh_u2 (sh_u2 (sy_u (sp_deq K s t l) s t o d p r) 4 t x) 27 t 0) 21 s ((K 21 s) + 1)
def sv_I (I : sh_II) (s t : Nat) (l : List Nat) (o d p r x y : Int32) : sh_II := sh_u2 (sh_u2 (sh_u2 (sh_u2 (sy_u (sp_mrem I s t l) s t o d p r) 4 t x) 1 t 0) 21 s ((I 21 s) + 1)) 9 t y
theorem sv_K4 {K : sh_II} {s t : Nat} {l : List Nat} (h : cw_cl (K 12 s) = 4) : sp_svK K s t l = sv_K K s t l (nI t) ((K 14 s) + (K 9 t)) (K 15 s) (K 17 (6 * s + t)) (K 10 t) := by
  funext a b
  simp [sp_svK, sv_K, sy_u, sp_deq, sp_tk, sp_row, sp_r18, sh_u2, h]
  grind (splits := 40)
theorem sv_K5 {K : sh_II} {s t : Nat} {l : List Nat} (h : cw_cl (K 12 s) = 5) : sp_svK K s t l = sv_K K s t l (K 13 s) (K 14 s) ((K 15 s) - 1) (K 17 (6 * s + t)) (K 10 t) := by
  funext a b
  simp [sp_svK, sv_K, sy_u, sp_deq, sp_tk, sp_row, sp_r18, sh_u2, h]
  grind (splits := 40)
theorem sv_K6 {K : sh_II} {s t : Nat} {l : List Nat} (h : cw_cl (K 12 s) = 6) : sp_svK K s t l = sv_K K s t l (K 13 s) (K 14 s) (K 15 s) (K 17 (6 * s + t)) (K 10 t) := by
  funext a b
  simp [sp_svK, sv_K, sy_u, sp_deq, sp_tk, sp_row, sp_r18, sh_u2, h]
  grind (splits := 40)
theorem sv_K7r {K : sh_II} {s t : Nat} {l : List Nat} (h : cw_cl (K 12 s) = 7) (h6 : K 6 t = 0) : sp_svK K s t l = sv_K K s t l (K 13 s) (K 14 s) (K 15 s) ((K 17 (6 * s + t)) + 1) (K 10 t) := by
  funext a b
  simp [sp_svK, sv_K, sy_u, sp_deq, sp_tk, sp_row, sp_r18, sh_u2, h, h6]
  grind (splits := 40)
theorem sv_K7w {K : sh_II} {s t : Nat} {l : List Nat} (h : cw_cl (K 12 s) = 7) (h6 : ¬ K 6 t = 0) : sp_svK K s t l = sv_K K s t l (nI t) ((K 14 s) + 1) (K 15 s) (K 17 (6 * s + t)) (K 10 t) := by
  funext a b
  simp [sp_svK, sv_K, sy_u, sp_deq, sp_tk, sp_row, sp_r18, sh_u2, h, h6]
  grind (splits := 40)
theorem sv_I0 {I : sh_II} {s t : Nat} {l : List Nat} (h9 : I 9 t ≤ 0) (h : I 12 s = 0 ∨ I 12 s = 1 ∨ (I 12 s = 5 ∧ ¬ I 6 t = 0)) : sp_mvI I s t l = sv_I I s t l (nI t) ((I 14 s) + 1) (I 15 s) (I 17 (6 * s + t)) 1 (I 9 t) := by
  funext a b
  rcases h with h | h | ⟨h, h6⟩
  · simp [sp_mvI, sv_I, sy_u, sp_mrem, sp_mtk, sp_row, sp_r18, sh_u2, h9, h]
    grind (splits := 40)
  · simp [sp_mvI, sv_I, sy_u, sp_mrem, sp_mtk, sp_row, sp_r18, sh_u2, h9, h]
    grind (splits := 40)
  · simp [sp_mvI, sv_I, sy_u, sp_mrem, sp_mtk, sp_row, sp_r18, sh_u2, h9, h, h6]
    grind (splits := 40)
theorem sv_I2 {I : sh_II} {s t : Nat} {l : List Nat} (h9 : I 9 t ≤ 0) (h : I 12 s = 2 ∨ I 12 s = 3) : sp_mvI I s t l = sv_I I s t l (I 13 s) (I 14 s) ((I 15 s) - 1) (I 17 (6 * s + t)) 1 (I 9 t) := by
  funext a b
  rcases h with h | h
  · simp [sp_mvI, sv_I, sy_u, sp_mrem, sp_mtk, sp_row, sp_r18, sh_u2, h9, h]
    grind (splits := 40)
  · simp [sp_mvI, sv_I, sy_u, sp_mrem, sp_mtk, sp_row, sp_r18, sh_u2, h9, h]
    grind (splits := 40)
theorem sv_I4 {I : sh_II} {s t : Nat} {l : List Nat} (h9 : I 9 t ≤ 0) (h : I 12 s = 4) : sp_mvI I s t l = sv_I I s t l (I 13 s) (I 14 s) (I 15 s) (I 17 (6 * s + t)) 1 (I 9 t) := by
  funext a b
  simp [sp_mvI, sv_I, sy_u, sp_mrem, sp_mtk, sp_row, sp_r18, sh_u2, h9, h]
  grind (splits := 40)
theorem sv_I5 {I : sh_II} {s t : Nat} {l : List Nat} (h9 : I 9 t ≤ 0) (h : I 12 s = 5) (h6 : I 6 t = 0) : sp_mvI I s t l = sv_I I s t l (I 13 s) (I 14 s) (I 15 s) ((I 17 (6 * s + t)) + 1) 1 (I 9 t) := by
  funext a b
  simp [sp_mvI, sv_I, sy_u, sp_mrem, sp_mtk, sp_row, sp_r18, sh_u2, h9, h, h6]
  grind (splits := 40)
theorem sv_Ib {I : sh_II} {s t : Nat} {l : List Nat} (h9 : ¬ I 9 t ≤ 0) : sp_mvI I s t l = sv_I I s t l (nI t) (I 9 t) (I 15 s) (I 17 (6 * s + t)) (I 10 t) 0 := by
  funext a b
  simp [sp_mvI, sv_I, sy_u, sp_mrem, sp_row, sp_r18, sh_u2, h9]
  grind (splits := 40)
section RLB
variable {K : sh_II} {L : sh_DD} {I : sh_II} {D : sh_DD} {R : Nat → List Nat} {k c s t : Nat}
/-- the rows with the row of s replaced -/
def rl_R (R : Nat → List Nat) (s : Nat) (l : List Nat) : Nat → List Nat := fun z => if z = s then l else R z
theorem rl_R_eq {l : List Nat} : rl_R R s l s = l := if_pos rfl
theorem rl_R_ne {l : List Nat} {z : Nat} (h : z ≠ s) : rl_R R s l z = R z := if_neg h
theorem rl_pos_lt {x : Int32} (h : rl_pos c x) (hc : c < 2 ^ 31) : ¬ x ≤ 0 := by
  obtain ⟨n, a, b, rfl⟩ := h
  exact nI_nle (by omega) (by omega)
theorem rl_pos_1 {x : Int32} (h : rl_pos c x) : rl_pos (c + 1) (x + 1) := by
  obtain ⟨n, a, b, rfl⟩ := h
  exact ⟨n + 1, by omega, by omega, nI_1 n⟩
theorem rl_nat_1 {x : Int32} (h : rl_nat c x) : rl_nat (c + 1) (x + 1) := by
  obtain ⟨n, b, rfl⟩ := h
  exact ⟨n + 1, by omega, nI_1 n⟩
theorem rl_ow_t {kd ow dp : Int32} (ht : t < 6) (h : rl_ow c kd ow dp) (hk : kd = 0 ∨ kd = 1 ∨ kd = 5) : rl_ow (c + 1) kd (nI t) (dp + 1) := by
  refine .inr ⟨⟨t, ht, rfl⟩, ?_, hk⟩
  rcases h with ⟨h1, h2⟩ | ⟨h1, h2, h3⟩
  · rw [h2]; exact ⟨1, by omega, by omega, by decide⟩
  · exact rl_pos_1 h2
theorem rl_can_own {m : Int32} (hk : I 12 s = 0 ∨ I 12 s = 1 ∨ I 12 s = 5) (h : sp_can I t s m = true) : I 13 s < 0 ∨ I 13 s = nI t := by
  unfold sp_can at h
  rcases hk with e | e | e
  · simp [e] at h; exact .inl h
  · simp [e] at h; exact h
  · simp [e] at h; exact h.1
theorem rl_neg1 {ow : Int32} {kd dp : Int32} (h : rl_ow c kd ow dp) (hn : ow < 0) : ow = -1 ∧ dp = 0 := by
  rcases h with h | ⟨⟨u, hu, e⟩, -, -⟩
  · exact h
  · exact absurd (e ▸ hn) (nI_pos (by omega))
theorem cw_cl_4 {x : Int32} (h : x = 0 ∨ x = 1) : cw_cl x = 4 := by rcases h with rfl | rfl <;> decide
theorem cw_cl_5 {x : Int32} (h : x = 2 ∨ x = 3) : cw_cl x = 5 := by rcases h with rfl | rfl <;> decide
theorem rl_vals (H : rl_All K L I D R k c) (hs : s < 8) (hz : ¬ I 12 s = 6) (ht : t ∈ R s) (hc : c < 2 ^ 30) (hcan : sp_can I t s (I 6 t) = true) :
    ∃ o d p r x y, sp_svK K s t (R s) = sv_K K s t (R s) o d p r x ∧ sp_mvI I s t (R s) = sv_I I s t (R s) o d p r x y ∧ rl_ow (c + 1) (I 12 s) o d ∧ rl_pm (I 12 s) p ∧ rl_rd (c + 1) (I 12 s) r ∧ (o = I 13 s ∨ o = nI t) := by
  obtain ⟨H1, H2, H3, H4, H5, H6, H7⟩ := H
  have ht6 : t < 6 := cw_row_lt (H4 s hs).1 ht
  have h5 := (H5 t s ht6 hs).mp ht
  obtain ⟨-, -, -, e6, -, -, -, b6, -, hp⟩ := H1 t ht6
  obtain ⟨e12, e13, e14, e15, -, -, -, hkd, how, hpm, -, -, -, hrd⟩ := H2 s hs
  obtain ⟨e17, hrt⟩ := hrd t ht6
  rcases hp with ⟨hp, -⟩ | ⟨z, hz8, hz5, -, -, -, hmd⟩
  · rw [h5] at hp; exact absurd hp (nI_m1' (by omega))
  have ez : s = z := (nI_eq (by omega) (by omega)).mp (h5.symm.trans hz5)
  subst ez
  rcases hmd with ⟨hz6, -⟩ | ⟨-, hm1, -, h9, hk9, hk10⟩ | ⟨hk01, -, hk9, hpos, hk10⟩
  · exact absurd hz6 hz
  · have h9' : I 9 t ≤ 0 := by rw [h9]; decide
    have lock : I 12 s = 0 ∨ I 12 s = 1 → ∃ o d p r x y, sp_svK K s t (R s) = sv_K K s t (R s) o d p r x ∧ sp_mvI I s t (R s) = sv_I I s t (R s) o d p r x y ∧ rl_ow (c + 1) (I 12 s) o d ∧ rl_pm (I 12 s) p ∧ rl_rd (c + 1) (I 12 s) r ∧ (o = I 13 s ∨ o = nI t) := fun hk => by
      have hk' : cw_cl (K 12 s) = 4 := by rw [e12]; exact cw_cl_4 hk
      have hk3 : I 12 s = 0 ∨ I 12 s = 1 ∨ I 12 s = 5 := hk.elim .inl (fun x => .inr (.inl x))
      exact ⟨nI t, I 14 s + 1, I 15 s, I 17 (6 * s + t), 1, I 9 t, by rw [sv_K4 hk', hk9, hk10, e14, e15, e17], sv_I0 h9' (hk.elim .inl (fun x => .inr (.inl x))), rl_ow_t ht6 how hk3, hpm, hrt.mono (by omega), .inr rfl⟩
    have sema : I 12 s = 2 ∨ I 12 s = 3 → ∃ o d p r x y, sp_svK K s t (R s) = sv_K K s t (R s) o d p r x ∧ sp_mvI I s t (R s) = sv_I I s t (R s) o d p r x y ∧ rl_ow (c + 1) (I 12 s) o d ∧ rl_pm (I 12 s) p ∧ rl_rd (c + 1) (I 12 s) r ∧ (o = I 13 s ∨ o = nI t) := fun hk => by
      have hk' : cw_cl (K 12 s) = 5 := by rw [e12]; exact cw_cl_5 hk
      refine ⟨I 13 s, I 14 s, I 15 s - 1, I 17 (6 * s + t), 1, I 9 t, by rw [sv_K5 hk', hk10, e13, e14, e15, e17], sv_I2 h9' hk, how.mono (by omega), ?_, hrt.mono (by omega), .inl rfl⟩
      obtain ⟨p, hp1, hp2, hp3⟩ := hpm
      have hp0 : ¬ p = 0 := fun e => by
        rw [e] at hp2
        unfold sp_can at hcan
        rcases hk with hk | hk <;> simp [hk, hp2, nI_0] at hcan
      obtain ⟨n, rfl⟩ : ∃ n, p = n + 1 := ⟨p - 1, by omega⟩
      exact ⟨n, by omega, by rw [hp2, nI_pred], hk.elim (fun x => .inr (.inl x)) (fun x => .inr (.inr (.inl x)))⟩
    rcases hkd with hk | hk | hk | hk | hk | hk | hk | hk
    · exact absurd hk hm1
    · exact lock (.inl hk)
    · exact lock (.inr hk)
    · exact sema (.inl hk)
    · exact sema (.inr hk)
    · have hk' : cw_cl (K 12 s) = 6 := by rw [e12, hk]; decide
      exact ⟨I 13 s, I 14 s, I 15 s, I 17 (6 * s + t), 1, I 9 t, by rw [sv_K6 hk', hk10, e13, e14, e15, e17], sv_I4 h9' hk, how.mono (by omega), hpm, hrt.mono (by omega), .inl rfl⟩
    · have hk' : cw_cl (K 12 s) = 7 := by rw [e12, hk]; decide
      by_cases hm : I 6 t = 0
      · refine ⟨I 13 s, I 14 s, I 15 s, I 17 (6 * s + t) + 1, 1, I 9 t, by rw [sv_K7r hk' (by rw [e6]; exact hm), hk10, e13, e14, e15, e17], sv_I5 h9' hk hm, how.mono (by omega), hpm, ?_, .inl rfl⟩
        obtain ⟨n, hn, en, -⟩ := hrt
        exact ⟨n + 1, by omega, by rw [en, nI_1], .inr hk⟩
      · exact ⟨nI t, I 14 s + 1, I 15 s, I 17 (6 * s + t), 1, I 9 t, by rw [sv_K7w hk' (by rw [e6]; exact hm), hk10, e14, e15, e17], sv_I0 h9' (.inr (.inr ⟨hk, hm⟩)), rl_ow_t ht6 how (.inr (.inr hk)), hpm, hrt.mono (by omega), .inr rfl⟩
    · exact absurd hk hz
  · have hk' : cw_cl (K 12 s) = 4 := by rw [e12]; exact cw_cl_4 hk01
    have hk3 : I 12 s = 0 ∨ I 12 s = 1 ∨ I 12 s = 5 := hk01.elim .inl (fun x => .inr (.inl x))
    have hown : I 13 s < 0 := by
      rcases rl_can_own hk3 hcan with h | h
      · exact h
      · rcases hk01 with e | e
        · unfold sp_can at hcan
          simp [e] at hcan; exact hcan
        · exact absurd h ((H6 s hs t ht).1 e)
    obtain ⟨ho, hd⟩ := rl_neg1 how hown
    exact ⟨nI t, I 9 t, I 15 s, I 17 (6 * s + t), I 10 t, 0, by rw [sv_K4 hk', hk9, hk10, e14, e15, e17, hd, Int32.zero_add], sv_Ib (rl_pos_lt hpos (by omega)), .inr ⟨⟨t, ht6, rfl⟩, hpos.mono (by omega), hk3⟩, hpm, hrt.mono (by omega), .inr rfl⟩
end RLB
section RLC
variable {K : sh_II} {L : sh_DD} {I : sh_II} {D : sh_DD} {R : Nat → List Nat} {k c s t : Nat}
theorem sp_rm_mem {l : List Nat} {t u : Nat} : u ∈ sp_rm l t ↔ u ∈ l ∧ u ≠ t := by
  unfold sp_rm
  simp [List.mem_filter]
theorem sp_rm_nodup {l : List Nat} {t : Nat} (h : l.Nodup) : (sp_rm l t).Nodup := List.Pairwise.filter _ h
theorem sp_rm_len1 {l : List Nat} {t : Nat} (hn : l.Nodup) (ht : t ∈ l) : (sp_rm l t).length + 1 = l.length := by
  obtain ⟨p, q, e, -, e2⟩ := sp_split hn ht
  rw [e2, e]
  simp; omega
theorem rl_st_deq {l : List Nat} (hr : cw_row K s l) (h : rl_st K s) : rl_st (sp_deq K s t l) s := fun i hi => by
  have e : sp_deq K s t l 18 (6 * s + i) = if i < (sp_rm l t).length then nI ((sp_rm l t).getD i 0) else K 18 (6 * s + i) := by
    unfold sp_deq sp_row sp_r18
    simp [sh_u2]
  rw [e]
  split
  · rename_i h'
    refine .inr ⟨(sp_rm l t).getD i 0, ?_, rfl⟩
    rw [List.getD_eq_getElem?_getD, List.getElem?_eq_getElem h']
    exact cw_row_lt hr (sp_rm_mem.mp (List.getElem_mem h')).1
  · exact h i hi
theorem rl_st_deq' {l : List Nat} {z : Nat} (hz : s ≠ z) (hr : cw_row K s l) (h : rl_st K z) : rl_st (sp_deq K s t l) z := fun i hi => by
  have hl := sp_rm_len l t
  have hl6 := hr.2.1
  have e : sp_deq K s t l 18 (6 * z + i) = K 18 (6 * z + i) := by
    unfold sp_deq sp_row sp_r18
    simp [sh_u2]
    intro h1 h2
    omega
  rw [e]
  exact h i hi
/-- the rows after t has left s -/
theorem rl_w_rm {K' I' : sh_II} {z : Nat} (hw : ∀ z, z < 8 → rl_w K I R z) (hs : s < 8) (hz : z < 8) (k18 : ∀ b, K' 18 b = sp_deq K s t (R s) 18 b) (k19 : ∀ b, K' 19 b = sp_deq K s t (R s) 19 b) (i18 : ∀ b, I' 18 b = sp_mrem I s t (R s) 18 b) (i19 : ∀ b, I' 19 b = sp_mrem I s t (R s) 19 b) : rl_w K' I' (rl_R R s (sp_rm (R s) t)) z := by
  have e18 : ∀ b, I' 18 b = sp_deq I s t (R s) 18 b := fun b => (i18 b).trans rfl
  have e19 : ∀ b, I' 19 b = sp_deq I s t (R s) 19 b := fun b => (i19 b).trans rfl
  by_cases e : z = s
  · subst e
    unfold rl_w
    rw [rl_R_eq]
    exact ⟨cw_row_f k18 k19 (cw_row_deq (hw z hz).1), cw_row_f e18 e19 (cw_row_deq (hw z hz).2.1), sp_rm_nodup (hw z hz).2.2.1, rl_st_f k18 (rl_st_deq (hw z hz).1 (hw z hz).2.2.2)⟩
  · unfold rl_w
    rw [rl_R_ne e]
    exact ⟨cw_row_f k18 k19 (cw_row_deq' (fun x => e x.symm) (hw s hs).1 (hw z hz).1), cw_row_f e18 e19 (cw_row_deq' (fun x => e x.symm) (hw s hs).2.1 (hw z hz).2.1), (hw z hz).2.2.1, rl_st_f k18 (rl_st_deq' (fun x => e x.symm) (hw s hs).1 (hw z hz).2.2.2)⟩
theorem rl_m_rm {z u : Nat} (hu : u ≠ t) : u ∈ rl_R R s (sp_rm (R s) t) z ↔ u ∈ R z := by
  by_cases e : z = s
  · subst e
    rw [rl_R_eq, sp_rm_mem]
    exact ⟨fun h => h.1, fun h => ⟨h, hu⟩⟩
  · rw [rl_R_ne e]
/-- t is nowhere but at s -/
theorem rl_only (H : rl_All K L I D R k c) (hs : s < 8) (ht : t ∈ R s) {z : Nat} (hz : z < 8) (hm : t ∈ R z) : z = s := by
  obtain ⟨H1, H2, H3, H4, H5, H6, H7⟩ := H
  have ht6 : t < 6 := cw_row_lt (H4 s hs).1 ht
  exact (nI_eq (by omega) (by omega)).mp (((H5 t z ht6 hz).mp hm).symm.trans ((H5 t s ht6 hs).mp ht))
theorem rl_m_rmt (H : rl_All K L I D R k c) (hs : s < 8) (ht : t ∈ R s) {z : Nat} (hz : z < 8) : ¬ t ∈ rl_R R s (sp_rm (R s) t) z := by
  by_cases e : z = s
  · subst e
    rw [rl_R_eq, sp_rm_mem]
    exact fun h => h.2 rfl
  · rw [rl_R_ne e]
    exact fun h => e (rl_only H hs ht hz h)
/-- the sum of the waiting times -/
theorem rl_sum (H : rl_All K L I D R k c) (hs : s < 8) (ht : t < 6) (hc : c < 2 ^ 20) : vf_n64 (FP.dsub (D 11 0) (D 8 t)) ∧ vf_n64 (FP.dadd (D 20 s) (FP.dsub (D 11 0) (D 8 t))) ∧ rl_fb ((c + 1) * 1024000) (FP.dadd (D 20 s) (FP.dsub (D 11 0) (D 8 t))) := by
  obtain ⟨H1, H2, H3, H4, H5, H6, H7⟩ := H
  obtain ⟨-, -, -, -, -, -, -, -, h8, -⟩ := H1 t ht
  obtain ⟨-, -, -, -, -, -, -, -, -, -, -, h20, -, -⟩ := H2 s hs
  obtain ⟨-, -, -, h11, -, hk, -⟩ := H7
  have a := h11.sub h8 (by omega)
  have b := h20.add a (by omega)
  exact ⟨a.vf, b.vf, b.mono (by omega)⟩
theorem rl_serve1 (H : rl_All K L I D R k c) (hs : s < 8) (hz : ¬ I 12 s = 6) (ht : t ∈ R s) (hc : c < 2 ^ 20) (hcan : sp_can I t s (I 6 t) = true) :
    rl_All (sp_svK K s t (R s)) (sp_svL L s t (L 11 0)) (sp_mvI I s t (R s)) (sp_svL D s t (D 11 0)) (rl_R R s (sp_rm (R s) t)) k (c + 1) := by
  obtain ⟨o, d, p, r, x, y, eK, eI, how, hpm, hrd, ho⟩ := rl_vals H hs hz ht (by omega) hcan
  have hsum := (rl_sum H hs (cw_row_lt (H.2.2.2.1 s hs).1 ht) hc).2.2
  have hrm := fun z hz => rl_m_rmt H hs ht (z := z) hz
  have H0 := H
  obtain ⟨H1, H2, H3, H4, H5, H6, H7⟩ := H
  have ht6 : t < 6 := cw_row_lt (H4 s hs).1 ht
  obtain ⟨t1, t2, t3, t4, t5, t6, t7, t8, t9, hp⟩ := H1 t ht6
  obtain ⟨y1, y2, y3, y4, y5, y6, y7, y8, y9, y10, y11, y12, y13, y14⟩ := H2 s hs
  have g3 := H7.2.2.1
  have hkm : ¬ I 12 s = -1 := fun e => by
    rcases hp with ⟨hp, -⟩ | ⟨z, hz8, hz5, -, -, -, hmd⟩
    · rw [(H5 t s ht6 hs).mp ht] at hp; exact absurd hp (nI_m1' (by omega))
    · have ez : s = z := (nI_eq (by omega) (by omega)).mp (((H5 t s ht6 hs).mp ht).symm.trans hz5)
      subst ez
      rcases hmd with ⟨hz6, -⟩ | ⟨-, hm1, -⟩ | ⟨hk01, -⟩
      · exact hz hz6
      · exact hm1 e
      · rw [e] at hk01; revert hk01; decide
  have hy : rl_y (sv_K K s t (R s) o d p r x) (sp_svL L s t (L 11 0)) (sv_I I s t (R s) o d p r x y) (sp_svL D s t (D 11 0)) (c + 1) s := by
    simp [rl_y, sv_K, sv_I, sy_u, sp_deq, sp_mrem, sp_row, sp_r18, sp_svL, sh_u2, y1, y5, y6, y7, y8, how, hpm, hsum, rl_nat_1 y11, hkm, g3, t6]
    intro u hu
    by_cases e : u = t
    · subst e; simp [hrd]
    · have : ¬ 6 * s + u = 6 * s + t := by omega
      simp [this, e, (y14 u hu).1, (y14 u hu).2.mono (Nat.le_succ c)]
  rw [eK, eI]
  refine rl_upd (t := t) (s := s) (q := s) H0 (Nat.le_succ c) ?_ (fun u hu hne => ?_) (fun z hz hne _ => ?_) (fun z => ?_) ?_ ?_ ?_ (fun z hz => rl_w_rm H4 hs hz ?_ ?_ ?_ ?_) (fun z u hz hu hne => rl_m_rm hne) (fun z hz => ?_) (fun z hz => ?_) ht6 (fun z hz hm => absurd hm (hrm z hz))
  · simp [rl_sG, sv_K, sv_I, sy_u, sp_deq, sp_mrem, sp_row, sp_r18, sp_svL, sh_u2]
  · simp [rl_sT, sv_K, sv_I, sy_u, sp_deq, sp_mrem, sp_row, sp_r18, sp_svL, sh_u2, hne]
  · simp [rl_sS, sv_K, sv_I, sy_u, sp_deq, sp_mrem, sp_row, sp_r18, sp_svL, sh_u2, hne]
    intro u hu
    have : ¬ 6 * z + u = 6 * s + t := by omega
    simp [this]
  · simp [sv_I, sy_u, sp_mrem, sp_row, sp_r18, sh_u2]
  · simp [rl_t, rl_p, sv_K, sv_I, sy_u, sp_deq, sp_mrem, sp_row, sp_r18, sp_svL, sh_u2, t1, t4, t5, t6, t7, t8, t9]
  · exact fun _ => hy
  · exact fun _ => hy
  · intro b; simp [sv_K, sy_u, sh_u2]
  · intro b; simp [sv_K, sy_u, sh_u2]
  · intro b; simp [sv_I, sy_u, sh_u2]
  · intro b; simp [sv_I, sy_u, sh_u2]
  · have := nI_m1 (u := z) (by omega)
    simp [hrm z hz, sv_I, sy_u, sp_mrem, sp_row, sp_r18, sh_u2, this]
  · by_cases e : z = s
    · subst e
      rcases ho with h | h <;> simp [sv_I, sy_u, sp_mrem, sp_row, sp_r18, sh_u2, h]
    · simp [sv_I, sy_u, sp_mrem, sp_row, sp_r18, sh_u2, e]
end RLC
section RLD
variable {K : sh_II} {L : sh_DD} {I : sh_II} {D : sh_DD} {R : Nat → List Nat} {k c s t : Nat}
theorem rl_g1 (h : ∀ u, u < 6 → L 3 u = D 3 u) : ∀ (r : List Nat) (a : Nat), (∀ u, u ∈ a :: r → u < 6) → r.foldl (sp_g1 L) a = r.foldl (sp_g1 D) a := by
  intro r
  induction r with
  | nil => intro a _; simp only [List.foldl_nil]
  | cons b r ih =>
    intro a hl
    have e : sp_g1 L a b = sp_g1 D a b := by
      unfold sp_g1
      rw [h a (hl a (by simp)), h b (hl b (by simp))]
    simp only [List.foldl_cons]
    rw [e]
    refine ih _ (fun u hu => ?_)
    rcases List.mem_cons.mp hu with rfl | hu
    · unfold sp_g1; split
      · exact hl _ (by simp)
      · exact hl _ (by simp)
    · exact hl u (by simp [hu])
theorem rl_fw (h : ∀ u, u < 6 → K 6 u = I 6 u) : ∀ (l : List Nat), (∀ u, u ∈ l → u < 6) → sp_fw K l = sp_fw I l := by
  intro l
  induction l with
  | nil => intro _; unfold sp_fw; simp only [List.find?_nil]
  | cons b r ih =>
    intro hl
    have e := ih (fun u hu => hl u (by simp [hu]))
    unfold sp_fw at *
    rw [List.find?_cons, List.find?_cons, h b (hl b (by simp)), e]
theorem rl_nx (H : rl_All K L I D R k c) (hs : s < 8) : sp_nx K L s (R s) = sp_nx I D s (R s) := by
  obtain ⟨H1, H2, H3, H4, H5, H6, H7⟩ := H
  have hl : ∀ u, u ∈ R s → u < 6 := fun u hu => cw_row_lt (H4 s hs).1 hu
  unfold sp_nx
  rw [(H2 s hs).1, rl_fw (fun u hu => (H1 u hu).2.2.2.1) _ hl]
  have : sp_gp L (R s) = sp_gp D (R s) := by
    cases hr : R s with
    | nil => rfl
    | cons a r =>
      rw [hr] at hl
      have e := rl_g1 (fun u hu => (H1 u hu).2.2.2.2.1) r a hl
      show some _ = some _
      rw [e]
  rw [this]
theorem rl_or (h : ∀ u, u < 6 → K 17 (6 * s + u) = I 17 (6 * s + u)) : sp_or K s t 0 6 = sp_or I s t 0 6 := by
  unfold sp_or
  have e : ∀ z : List Nat, (∀ o, o ∈ z → o < 6) → z.any (fun o => decide (¬ o = t ∧ ¬ K 17 (6 * s + o) ≤ 0)) = z.any (fun o => decide (¬ o = t ∧ ¬ I 17 (6 * s + o) ≤ 0)) := by
    intro z
    induction z with
    | nil => intro _; simp only [List.any_nil]
    | cons a z ih =>
      intro hz
      rw [List.any_cons, List.any_cons, ih (fun o ho => hz o (by simp [ho]))]
      simp only [h a (hz a (by simp))]
  exact e _ (fun o ho => by simp [List.mem_range'] at ho; omega)
theorem rl_can (H : rl_All K L I D R k c) (hs : s < 8) (m : Int32) : sp_can K t s m = sp_can I t s m := by
  obtain ⟨y1, y2, y3, y4, y5, y6, y7, y8, y9, y10, y11, y12, y13, y14⟩ := H.2.1 s hs
  unfold sp_can
  rw [y1, y2, y4, rl_or (fun u hu => (y14 u hu).1)]
theorem rl_okr (H : rl_All K L I D R k c) : cw_okr K := fun s hs => by
  obtain ⟨y1, y2, y3, y4, y5, y6, y7, y8, y9, -⟩ := H.2.1 s hs
  rw [y2]
  rcases y9 with h | ⟨h, -⟩
  · exact .inl h.1
  · exact .inr h
theorem rl_serve (p : UInt64) (hs : s < 8) : ∀ (n : Nat) (K : sh_II) (L : sh_DD) (I : sh_II) (D : sh_DD) (R : Nat → List Nat) (c : Nat), rl_All K L I D R k c → (R s).length = n → c + n ≤ 2 ^ 20 → ¬ I 12 s = 6 → L 11 0 = p →
    sp_svok p s n K L (R s) ∧ sp_mvok s n I D (R s) ∧ ∃ R', rl_All (sp_serve p s n K L (R s)).1 (sp_serve p s n K L (R s)).2 (sp_mserve s n I D (R s)).1 (sp_mserve s n I D (R s)).2 R' k (c + n) ∧ ∀ z, z ≠ s → R' z = R z := by
  intro n
  induction n with
  | zero =>
    intro K L I D R c H hn hc hz hp
    exact ⟨trivial, ⟨(H.2.2.2.1 s hs).2.1, List.length_eq_zero_iff.mp hn⟩, R, H, fun z _ => rfl⟩
  | succ n ih =>
    intro K L I D R c H hn hc hz hp
    have H0 := H
    obtain ⟨H1, H2, H3, H4, H5, H6, H7⟩ := H
    have hl : ∀ u, u ∈ R s → u < 6 := fun u hu => cw_row_lt (H4 s hs).1 hu
    have enx := rl_nx H0 hs
    have h6 : ∀ u, u < 6 → K 6 u = I 6 u := fun u hu => (H1 u hu).2.2.2.1
    have b6 : ∀ u, u < 6 → I 6 u = 0 ∨ I 6 u = 1 := fun u hu => (H1 u hu).2.2.2.2.2.2.2.1
    have hp2 : D 11 0 = p := H7.2.2.1.symm.trans hp
    cases hx : sp_nx I D s (R s) with
    | none =>
      have hx' := enx.trans hx
      refine ⟨⟨(H4 s hs).1, rl_okr H0, fun t e => ?_⟩, ⟨(H4 s hs).2.1, (H4 s hs).2.2.1, fun v hv => b6 v (hl v hv), fun e => ?_, fun t e => ?_⟩, R, ?_, fun z _ => rfl⟩
      · rw [hx'] at e; cases e
      · rw [e] at hn; cases hn
      · rw [hx] at e; cases e
      · simp only [sp_serve, sp_mserve, hx, hx']
        exact H0.mono (by omega)
    | some t =>
      have hx' := enx.trans hx
      have htm : t ∈ R s := sp_nx_mem hx
      have ht6 := hl t htm
      have ecan := rl_can (t := t) H0 hs (I 6 t)
      by_cases hcan : sp_can I t s (I 6 t) = true
      · have h1 := rl_serve1 H0 hs hz htm (by omega) hcan
        have hsum := rl_sum H0 hs ht6 (by omega)
        have hlen := sp_rm_len1 (H4 s hs).2.2.1 htm
        have hr1 : rl_R R s (sp_rm (R s) t) s = sp_rm (R s) t := rl_R_eq
        have e12 : sp_mvI I s t (R s) 12 s = I 12 s := sp_mvI_keep (by decide) s
        have e11 : sp_svL L s t (L 11 0) 11 0 = p := by rw [← hp]; exact sh_u2_row (by decide) 0
        obtain ⟨A, B, R', C, E⟩ := ih _ _ _ _ _ _ h1 (by rw [hr1]; omega) (by omega) (by rw [e12]; exact hz) e11
        rw [hr1] at A B C
        rw [hp] at A C
        rw [hp2] at B C
        refine ⟨⟨(H4 s hs).1, rl_okr H0, fun u e => ?_⟩, ⟨(H4 s hs).2.1, (H4 s hs).2.2.1, fun v hv => b6 v (hl v hv), fun e => ?_, fun u e _ => ?_⟩, R', ?_, fun z hz' => (E z hz').trans (rl_R_ne hz')⟩
        · rw [hx'] at e; cases e
          refine ⟨by rw [h6 t ht6]; exact b6 t ht6, fun _ => ?_⟩
          rw [(H1 t ht6).2.2.2.2.2.1, (H2 s hs).2.2.2.2.2.2.1, ← hp2]
          exact ⟨hsum.1, hsum.2.1, by rw [hp2]; exact A⟩
        · rw [e] at hn; cases hn
        · rw [hx] at e; cases e
          exact ⟨hsum.1, hsum.2.1, by rw [hp2]; exact B⟩
        · simp only [sp_serve, sp_mserve, hx, hx', h6 t ht6, ecan, hcan, if_true, hp2]
          rw [show c + (n + 1) = c + 1 + n by omega]
          exact C
      · refine ⟨⟨(H4 s hs).1, rl_okr H0, fun u e => ?_⟩, ⟨(H4 s hs).2.1, (H4 s hs).2.2.1, fun v hv => b6 v (hl v hv), fun e => ?_, fun u e hc' => ?_⟩, R, ?_, fun z _ => rfl⟩
        · rw [hx'] at e; cases e
          refine ⟨by rw [h6 t ht6]; exact b6 t ht6, fun hc' => ?_⟩
          rw [h6 t ht6, ecan] at hc'; exact absurd hc' hcan
        · rw [e] at hn; cases hn
        · rw [hx] at e; cases e; exact absurd hc' hcan
        · simp only [sp_serve, sp_mserve, hx, hx', h6 t ht6, ecan, hcan, if_false]
          exact H0.mono (by omega)
end RLD
