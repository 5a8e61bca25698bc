section RLE
variable {K : sh_II} {L : sh_DD} {I : sh_II} {D : sh_DD} {R : Nat → List Nat} {k c s t q : Nat}
theorem rl_pig : ∀ (n : Nat) (l : List Nat), l.Nodup → (∀ x, x ∈ l → x < n) → l.length ≤ n := by
  intro n
  induction n with
  | zero =>
    intro l _ h
    cases l with
    | nil => exact Nat.le_refl _
    | cons a r => exact absurd (h a (by simp)) (by omega)
  | succ n ih =>
    intro l hn h
    by_cases hm : n ∈ l
    · have e := sp_rm_len1 hn hm
      have := ih (sp_rm l n) (sp_rm_nodup hn) (fun x hx => by
        have := sp_rm_mem.mp hx
        have := h x this.1
        omega)
      omega
    · have := ih l hn (fun x hx => by
        have := h x hx
        have : x ≠ n := fun e => hm (e ▸ hx)
        omega)
      omega
theorem rl_len {l : List Nat} (hr : cw_row K s l) (hn : l.Nodup) (ht : t < 6) (hm : ¬ t ∈ l) : l.length < 6 := by
  have := rl_pig 6 (t :: l) (List.nodup_cons.mpr ⟨hm, hn⟩) (fun x hx => by
    rcases List.mem_cons.mp hx with rfl | hx
    · exact ht
    · exact cw_row_lt hr hx)
  simp at this
  omega
theorem rl_st_enq {l : List Nat} {m : Int32} {z : Nat} (ht : t < 6) (hl : l.length < 6) (h : rl_st K z) : rl_st (sp_enq K s t m l) z := fun i hi => by
  by_cases e : 6 * z + i = 6 * s + l.length
  · exact .inr ⟨t, ht, by simp [sp_enq, sh_u2, e]⟩
  · have : sp_enq K s t m l 18 (6 * z + i) = K 18 (6 * z + i) := by simp [sp_enq, sh_u2, e]
    rw [this]
    exact h i hi
/-- the rows after t has come to s -/
theorem rl_w_en {K' I' : sh_II} {z : Nat} (hw : ∀ z, z < 8 → rl_w K I R z) (hs : s < 8) (hz : z < 8) (ht : t < 6) (hm : ¬ t ∈ R s) (k18 : ∀ b, K' 18 b = sp_enq K s t 0 (R s) 18 b) (k19 : ∀ b, K' 19 b = sp_enq K s t 0 (R s) 19 b) (i18 : ∀ b, I' 18 b = sp_enq I s t 0 (R s) 18 b) (i19 : ∀ b, I' 19 b = sp_enq I s t 0 (R s) 19 b) : rl_w K' I' (rl_R R s (R s ++ [t])) z := by
  have hl := rl_len (hw s hs).1 (hw s hs).2.2.1 ht hm
  by_cases e : z = s
  · subst e
    unfold rl_w
    rw [rl_R_eq]
    refine ⟨cw_row_f k18 k19 (cw_row_enq ht hl (hw z hz).1), cw_row_f i18 i19 (cw_row_enq ht hl (hw z hz).2.1), ?_, rl_st_f k18 (rl_st_enq ht hl (hw z hz).2.2.2)⟩
    rw [List.nodup_append]
    exact ⟨(hw z hz).2.2.1, by simp, fun a ha b hb => by
      rw [List.mem_singleton] at hb
      subst hb
      exact fun e => hm (e ▸ ha)⟩
  · unfold rl_w
    rw [rl_R_ne e]
    exact ⟨cw_row_f k18 k19 (cw_row_enq' (fun x => e x.symm) hl (hw z hz).1), cw_row_f i18 i19 (cw_row_enq' (fun x => e x.symm) hl (hw z hz).2.1), (hw z hz).2.2.1, rl_st_f k18 (rl_st_enq ht hl (hw z hz).2.2.2)⟩
theorem rl_m_en {z u : Nat} (hu : u ≠ t) : u ∈ rl_R R s (R s ++ [t]) z ↔ u ∈ R z := by
  by_cases e : z = s
  · subst e
    rw [rl_R_eq, List.mem_append, List.mem_singleton]
    exact ⟨fun h => h.resolve_right hu, .inl⟩
  · rw [rl_R_ne e]
/-- one that runs is in no row -/
theorem rl_run (H : rl_All K L I D R k c) (ht : t < 6) (h5 : I 5 t = -1) {z : Nat} (hz : z < 8) : ¬ t ∈ R z := fun hm => by
  have := (H.2.2.2.2.1 t z ht hz).mp hm
  rw [h5] at this
  exact nI_m1 (by omega) this
theorem rl_m_ent (H : rl_All K L I D R k c) (ht : t < 6) (h5 : I 5 t = -1) {z : Nat} (hz : z < 8) (hs : s < 8) : t ∈ rl_R R s (R s ++ [t]) z ↔ nI s = nI z := by
  rw [nI_eq (by omega) (by omega)]
  by_cases e : z = s
  · subst e
    rw [rl_R_eq]
    simp
  · rw [rl_R_ne e]
    exact ⟨fun h => absurd h (rl_run H ht h5 hz), fun h => absurd h.symm e⟩
theorem rl_running (H : rl_All K L I D R k c) (ht : t < 6) (h5 : I 5 t = -1) : I 1 t = 0 ∧ K 26 t = 0 ∧ K 27 t = 0 := by
  obtain ⟨-, -, -, -, -, -, -, -, -, hp⟩ := H.1 t ht
  rcases hp with ⟨-, h⟩ | ⟨z, hz, e, -⟩
  · exact h
  · rw [h5] at e; exact absurd e (nI_m1 (by omega))
theorem rl_waiting (H : rl_All K L I D R k c) (hs : s < 8) (ht : t ∈ R s) : t < 6 ∧ I 5 t = nI s ∧ I 1 t = 1 ∧ I 4 t = 0 ∧ rl_en (K 26 t) (L 7 t) (D 7 t) ∧ rl_md c (I 12 s) (K 27 t) (K 9 t) (I 9 t) (K 10 t) (I 10 t) := by
  obtain ⟨H1, H2, H3, H4, H5, H6, H7⟩ := H
  have ht6 : t < 6 := cw_row_lt (H4 s hs).1 ht
  have h5 := (H5 t s ht6 hs).mp ht
  obtain ⟨-, -, -, -, -, -, -, -, -, hp⟩ := H1 t ht6
  rcases hp with ⟨hp, -⟩ | ⟨z, hz8, hz5, a, b, d, hmd⟩
  · rw [h5] at hp; exact absurd hp (nI_m1' (by omega))
  have ez : s = z := (nI_eq (by omega) (by omega)).mp (h5.symm.trans hz5)
  subst ez
  exact ⟨ht6, h5, a, b, d, hmd⟩
/-- only the reference's rows 0 and 23 have changed -/
theorem rl_free {I' : sh_II} (H : rl_All K L I D R k c) (h : ∀ r b, r ≠ 0 → r ≠ 23 → I' r b = I r b) : rl_All K L I' D R k c := by
  obtain ⟨H1, H2, H3, H4, H5, H6, H7⟩ := H
  have h12 : ∀ i, I' 12 i = I 12 i := fun i => h 12 i (by decide) (by decide)
  refine ⟨fun t ht => rl_t_same (by simp [rl_sT, h]) h12 (H1 t ht), fun z hz => rl_y_same (by simp [rl_sS, h]) (H2 z hz), fun z hz => ?_, fun z hz => ⟨(H4 z hz).1, cw_row_f (fun b => h 18 b (by decide) (by decide)) (fun b => h 19 b (by decide) (by decide)) (H4 z hz).2.1, (H4 z hz).2.2⟩, fun t z ht hz => ?_, fun z hz t ht => ?_, rl_g_same (by simp [rl_sG, h]) H7⟩
  · unfold rl_cd; simp only [h12, h 16 _ (by decide) (by decide)]; exact H3 z hz
  · unfold rl_m; rw [h 5 _ (by decide) (by decide)]; exact H5 t z ht hz
  · unfold rl_o; simp only [h12, h 16 _ (by decide) (by decide), h 13 _ (by decide) (by decide)]; exact H6 z hz t ht
/-- one thread's flag and outcome change -/
theorem rl_thr {K' I' : sh_II} (H : rl_All K L I D R k c) (ht : t < 6) (hK : ∀ r b, ¬ (b = t ∧ (r = 2 ∨ r = 4 ∨ r = 27)) → K' r b = K r b) (hI : ∀ r b, ¬ (b = t ∧ (r = 2 ∨ r = 4)) → I' r b = I r b) (h2 : K' 2 t = I' 2 t) (h2' : I' 2 t = 0 ∨ I' 2 t = 1) (h4 : K' 4 t = I' 4 t) (h : (I 5 t = -1 ∧ K' 27 t = 0) ∨ (K' 27 t = K 27 t ∧ I' 4 t = I 4 t)) : rl_All K' L I' D R k c := by
  have H0 := H
  obtain ⟨H1, H2, H3, H4, H5, H6, H7⟩ := H
  obtain ⟨t1, t2, t3, t4, t5, t6, t7, t8, t9, hp⟩ := H1 t ht
  have a5 : I' 5 t = I 5 t := hI 5 t (by simp)
  have a13 : ∀ z, I' 13 z = I 13 z := fun z => hI 13 z (by simp)
  have a12 : ∀ z, I' 12 z = I 12 z := fun z => hI 12 z (by simp)
  have a16 : ∀ z, I' 16 z = I 16 z := fun z => hI 16 z (by simp)
  refine rl_upd (t := t) (s := 8) (q := 8) H0 (Nat.le_refl c) ?_ (fun u hu hne => ?_) (fun z hz hne _ => ?_) a16 ?_ (fun h => absurd h (by omega)) (fun h => absurd h (by omega)) (fun z hz => ?_) (fun z u hz hu hne => Iff.rfl) (fun z hz => ?_) (fun z hz => .inl (a13 z)) ht (fun z hz hm => ?_)
  · exact ⟨hK _ _ (by simp), hK _ _ (by simp), rfl, hK _ _ (by simp), fun i => hK _ _ (by simp), hI _ _ (by simp), hI _ _ (by simp), rfl, fun i => hI _ _ (by simp), a12⟩
  · simp [rl_sT, hK, hI, hne]
  · simp [rl_sS, hK, hI]
  · unfold rl_t rl_p
    rw [h2, h4, a5, hK 5 t (by simp), hK 6 t (by simp), hI 6 t (by simp), hK 26 t (by simp), hI 1 t (by simp), hK 9 t (by simp), hK 10 t (by simp), hI 9 t (by simp), hI 10 t (by simp)]
    refine ⟨rfl, rfl, t3, t4, t5, t6, h2', t8, t9, ?_⟩
    simp only [a12]
    rcases h with ⟨h5, h27⟩ | ⟨h27, h4'⟩
    · have := rl_running H0 ht h5
      exact .inl ⟨h5, this.1, this.2.1, h27⟩
    · rw [h27, h4']; exact hp
  · exact ⟨cw_row_f (fun b => hK _ _ (by simp)) (fun b => hK _ _ (by simp)) (H4 z hz).1, cw_row_f (fun b => hI _ _ (by simp)) (fun b => hI _ _ (by simp)) (H4 z hz).2.1, (H4 z hz).2.2.1, rl_st_f (fun b => hK _ _ (by simp)) (H4 z hz).2.2.2⟩
  · rw [a5]; exact H5 t z ht hz
  · unfold rl_o; simp only [a12, a16, a13]; exact H6 z hz t hm
/-- one sync's state changes -/
theorem rl_syn {K' I' : sh_II} {o d p r : Int32} {c' : Nat} (H : rl_All K L I D R k c) (ht : t < 6) (hs : s < 8) (hK : K' = sy_u K s t o d p r) (hI : I' = sy_u I s t o d p r) (hc : c ≤ c') (how : rl_ow c' (I 12 s) o d) (hpm : rl_pm (I 12 s) p) (hrd : rl_rd c' (I 12 s) r) (ho : o = I 13 s ∨ o = -1 ∨ (o = nI t ∧ I 5 t = -1)) : rl_All K' L I' D R k c' := by
  have H0 := H
  obtain ⟨H1, H2, H3, H4, H5, H6, H7⟩ := H
  obtain ⟨y1, y2, y3, y4, y5, y6, y7, y8, y9, y10, y11, y12, y13, y14⟩ := H2 s hs
  subst hK hI
  have hy : rl_y (sy_u K s t o d p r) L (sy_u I s t o d p r) D c' s := by
    simp [rl_y, sy_u, sh_u2, y1, y5, y6, y7, y8, how, hpm, y11.mono hc, y12.mono (Nat.mul_le_mul_right _ hc)]
    refine ⟨y13, fun u hu => ?_⟩
    by_cases e : u = t
    · subst e; simp [hrd]
    · simp [e, (y14 u hu).1, (y14 u hu).2.mono hc]
  have h13 : ∀ z, z < 8 → sy_u I s t o d p r 13 z = I 13 z ∨ sy_u I s t o d p r 13 z = -1 ∨ (sy_u I s t o d p r 13 z = nI t ∧ I 5 t = -1) := fun z hz => by
    by_cases e : z = s
    · subst e
      rcases ho with h | h | h <;> simp [sy_u, sh_u2, h]
    · simp [sy_u, sh_u2, e]
  refine rl_upd (t := t) (s := s) (q := s) H0 hc ?_ (fun u hu hne => ?_) (fun z hz hne _ => ?_) (fun z => ?_) ?_ (fun _ => hy) (fun _ => hy) (fun z hz => ?_) (fun z u hz hu hne => Iff.rfl) (fun z hz => ?_) (fun z hz => ?_) ht (fun z hz hm => ?_)
  · simp [rl_sG, sy_u, sh_u2]
  · simp [rl_sT, sy_u, sh_u2]
  · simp [rl_sS, sy_u, sh_u2, hne]
    intro u hu
    have : ¬ 6 * z + u = 6 * s + t := by omega
    simp [this]
  · simp [sy_u, sh_u2]
  · exact rl_t_same (by simp [rl_sT, sy_u, sh_u2]) (fun i => by simp [sy_u, sh_u2]) ((H1 t ht).mono (Nat.le_refl _) hc)
  · exact ⟨cw_row_f (fun b => by simp [sy_u, sh_u2]) (fun b => by simp [sy_u, sh_u2]) (H4 z hz).1, cw_row_f (fun b => by simp [sy_u, sh_u2]) (fun b => by simp [sy_u, sh_u2]) (H4 z hz).2.1, (H4 z hz).2.2.1, rl_st_f (fun b => by simp [sy_u, sh_u2]) (H4 z hz).2.2.2⟩
  · rw [show sy_u I s t o d p r 5 t = I 5 t by simp [sy_u, sh_u2]]; exact H5 t z ht hz
  · rcases h13 z hz with h | h | h
    · exact .inl h
    · exact .inr (.inl h)
    · exact .inr (.inr h.1)
  · have hold := H6 z hz t hm
    have key : ∀ y, y < 8 → ¬ I 13 y = nI t → ¬ sy_u I s t o d p r 13 y = nI t := fun y hy hn => by
      rcases h13 y hy with h | h | h
      · rw [h]; exact hn
      · rw [h]; exact nI_m1 (by omega)
      · exact absurd hm (rl_run H0 ht h.2 hz)
    have e12 : ∀ y, sy_u I s t o d p r 12 y = I 12 y := fun y => by simp [sy_u, sh_u2]
    have e16 : ∀ y, sy_u I s t o d p r 16 y = I 16 y := fun y => by simp [sy_u, sh_u2]
    unfold rl_o
    rw [e12, e16]
    exact ⟨fun h1 => key z hz (hold.1 h1), fun h1 y hy h2 => key y hy (hold.2 h1 y hy h2)⟩
end RLE
section RLF
variable {K : sh_II} {L : sh_DD} {I : sh_II} {D : sh_DD} {R : Nat → List Nat} {k c s t q : Nat}
theorem sy_id (X : sh_II) (s t : Nat) : sy_u X s t (X 13 s) (X 14 s) (X 15 s) (X 17 (6 * s + t)) = X := by
  unfold sy_u
  rw [sh_u2_self, show X 14 s = (X) 14 s from rfl]
  rw [show sh_u2 X 14 s (X 14 s) = X from sh_u2_self X 14 s, show sh_u2 X 15 s (X 15 s) = X from sh_u2_self X 15 s, sh_u2_self]
theorem tk_vals {m : Int32} (H : rl_All K L I D R k c) (hs : s < 8) (ht : t < 6) (hz : ¬ I 12 s = 6) (hm1 : ¬ I 12 s = -1) (hc : c < 2 ^ 30) (hcan : sp_can I t s m = true) :
    ∃ o d p r, sp_tk K t s m 1 = sy_u K s t o d p r ∧ sp_mtk I t s m = sy_u I s t o d p r ∧ rl_ow (c + 1) (I 12 s) o d ∧ rl_pm (I 12 s) p ∧ rl_rd (c + 1) (I 12 s) r ∧ (o = I 13 s ∨ o = nI t) := by
  obtain ⟨H1, H2, H3, H4, H5, H6, H7⟩ := H
  obtain ⟨e12, e13, e14, e15, -, -, -, hkd, how, hpm, -, -, -, hrd⟩ := H2 s hs
  obtain ⟨e17, hrt⟩ := hrd t ht
  have own : (I 12 s = 0 ∨ I 12 s = 1 ∨ (I 12 s = 5 ∧ ¬ m = 0)) → ∃ o d p r, sp_tk K t s m 1 = sy_u K s t o d p r ∧ sp_mtk I t s m = sy_u I s t o d p r ∧ rl_ow (c + 1) (I 12 s) o d ∧ rl_pm (I 12 s) p ∧ rl_rd (c + 1) (I 12 s) r ∧ (o = I 13 s ∨ o = nI t) := fun hk => by
    refine ⟨nI t, I 14 s + 1, I 15 s, I 17 (6 * s + t), ?_, ?_, rl_ow_t ht how (by rcases hk with h | h | h <;> simp [h]), hpm, hrt.mono (by omega), .inr rfl⟩
    · funext a b
      rcases hk with h | h | ⟨h, h6⟩
      · simp [sp_tk, sy_u, sh_u2, cw_cl, e12, h]; grind (splits := 40)
      · simp [sp_tk, sy_u, sh_u2, cw_cl, e12, h]; grind (splits := 40)
      · simp [sp_tk, sy_u, sh_u2, cw_cl, e12, h, h6]; grind (splits := 40)
    · funext a b
      rcases hk with h | h | ⟨h, h6⟩
      · simp [sp_mtk, sy_u, sh_u2, h]; grind (splits := 40)
      · simp [sp_mtk, sy_u, sh_u2, h]; grind (splits := 40)
      · simp [sp_mtk, sy_u, sh_u2, h, h6]; grind (splits := 40)
  have sema : I 12 s = 2 ∨ I 12 s = 3 → ∃ o d p r, sp_tk K t s m 1 = sy_u K s t o d p r ∧ sp_mtk I t s m = sy_u I s t o d p r ∧ rl_ow (c + 1) (I 12 s) o d ∧ rl_pm (I 12 s) p ∧ rl_rd (c + 1) (I 12 s) r ∧ (o = I 13 s ∨ o = nI t) := fun hk => by
    refine ⟨I 13 s, I 14 s, I 15 s - 1, I 17 (6 * s + t), ?_, ?_, how.mono (by omega), ?_, hrt.mono (by omega), .inl rfl⟩
    · funext a b
      rcases hk with h | h <;> simp [sp_tk, sy_u, sh_u2, cw_cl, e12, h] <;> grind (splits := 40)
    · funext a b
      rcases hk with h | h <;> simp [sp_mtk, sy_u, sh_u2, h] <;> grind (splits := 40)
    · obtain ⟨p, hp1, hp2, hp3⟩ := hpm
      have hp0 : ¬ p = 0 := fun e => by
        rw [e] at hp2
        unfold sp_can at hcan
        rcases hk with hk | hk <;> simp [hk, hp2, nI_0] at hcan
      obtain ⟨n, rfl⟩ : ∃ n, p = n + 1 := ⟨p - 1, by omega⟩
      exact ⟨n, by omega, by rw [hp2, nI_pred], hk.elim (fun x => .inr (.inl x)) (fun x => .inr (.inr (.inl x)))⟩
  rcases hkd with hk | hk | hk | hk | hk | hk | hk | hk
  · exact absurd hk hm1
  · exact own (.inl hk)
  · exact own (.inr (.inl hk))
  · exact sema (.inl hk)
  · exact sema (.inr hk)
  · refine ⟨I 13 s, I 14 s, I 15 s, I 17 (6 * s + t), ?_, ?_, how.mono (by omega), hpm, hrt.mono (by omega), .inl rfl⟩
    · funext a b
      simp [sp_tk, sy_u, sh_u2, cw_cl, e12, hk]; grind (splits := 40)
    · rw [sy_id]; simp [sp_mtk, hk]
  · by_cases hm : m = 0
    · refine ⟨I 13 s, I 14 s, I 15 s, I 17 (6 * s + t) + 1, ?_, ?_, how.mono (by omega), hpm, ?_, .inl rfl⟩
      · funext a b
        simp [sp_tk, sy_u, sh_u2, cw_cl, e12, hk, hm]; grind (splits := 40)
      · funext a b
        simp [sp_mtk, sy_u, sh_u2, hk, hm]; grind (splits := 40)
      · obtain ⟨n, hn, en, -⟩ := hrt
        exact ⟨n + 1, by omega, by rw [en, nI_1], .inr hk⟩
    · exact own (.inr (.inr ⟨hk, hm⟩))
  · exact absurd hk hz
/-- taken at once -/
theorem rl_take {m : Int32} (H : rl_All K L I D R k c) (hs : s < 8) (ht : t < 6) (hz : ¬ I 12 s = 6) (hm1 : ¬ I 12 s = -1) (h5 : I 5 t = -1) (hc : c < 2 ^ 30) (hcan : sp_can I t s m = true) : rl_All (sh_u2 (sh_u2 (sp_tk K t s m 1) 4 t 1) 27 t 0) L (sh_u2 (sp_mtk I t s m) 4 t 1) D R k (c + 1) := by
  obtain ⟨o, d, p, r, eK, eI, how, hpm, hrd, ho⟩ := tk_vals H hs ht hz hm1 hc hcan
  have H1 := rl_syn H ht hs eK eI (Nat.le_succ c) how hpm hrd (ho.elim .inl (fun x => .inr (.inr ⟨x, h5⟩)))
  have b2 := (H.1 t ht).2.2.2.2.2.2.1
  have a2 := (H.1 t ht).1
  refine rl_thr H1 ht (fun r b hn => ?_) (fun r b hn => ?_) ?_ ?_ ?_ (.inl ⟨?_, ?_⟩)
  · unfold sh_u2; rw [if_neg (fun e => hn (by simp [e])), if_neg (fun e => hn (by simp [e]))]
  · unfold sh_u2; rw [if_neg (fun e => hn (by simp [e]))]
  · rw [eK, eI]; simp [sy_u, sh_u2, a2]
  · rw [eI]; simp [sy_u, sh_u2]; exact b2
  · simp [sh_u2]
  · rw [eI]; simp [sy_u, sh_u2, h5]
  · simp [sh_u2]
/-- t comes to the gate s -/
theorem rl_enter {K' I' : sh_II} {L' D' : sh_DD} {m : Int32} (H : rl_All K L I D R k c) (hs : s < 8) (ht : t < 6) (hz : ¬ I 12 s = 6) (hm1 : ¬ I 12 s = -1) (h5 : I 5 t = -1) (hm : m = 0 ∨ m = 1) (hno : I 12 s = 1 → ¬ I 13 s = nI t) {e : Int32} {x y : UInt64} (he : rl_en e x y)
    (hK : K' = sh_u2 (sp_enq (sh_u2 (sh_u2 K 9 t 1) 10 t 1) s t m (R s)) 26 t e) (hL : L' = sh_u2 (sh_u2 L 8 t (L 11 0)) 7 t x) (hI : I' = sh_u2 (sp_ment (sh_u2 (sh_u2 I 6 t m) 9 t 0) s t (R s)) 4 t 0) (hD : D' = sh_u2 (sh_u2 D 7 t y) 8 t (D 11 0)) : rl_All K' L' I' D' (rl_R R s (R s ++ [t])) k c := by
  have H0 := H
  obtain ⟨H1, H2, H3, H4, H5, H6, H7⟩ := H
  obtain ⟨t1, t2, t3, t4, t5, t6, t7, t8, t9, hp⟩ := H1 t ht
  obtain ⟨r1, r2, r3⟩ := rl_running H0 ht h5
  obtain ⟨g1, g2, g3, g4, g5, g6, -⟩ := H7
  subst hK hL hI hD
  have nm : ¬ t ∈ R s := rl_run H0 ht h5 hs
  refine rl_upd (t := t) (s := 8) (q := 8) H0 (Nat.le_refl c) ?_ (fun u hu hne => ?_) (fun z hz hne _ => ?_) (fun z => ?_) ?_ (fun h => absurd h (by omega)) (fun h => absurd h (by omega)) (fun z hz => rl_w_en H4 hs hz ht nm ?_ ?_ ?_ ?_) (fun z u hz hu hne => rl_m_en hne) (fun z hz => ?_) (fun z hz => .inl ?_) ht (fun z hz hm => ?_)
  · simp [rl_sG, sp_enq, sp_ment, sh_u2]
  · simp [rl_sT, sp_enq, sp_ment, sh_u2, hne]
  · simp [rl_sS, sp_enq, sp_ment, sh_u2]
  · simp [sp_ment, sh_u2]
  · refine ⟨?_, ?_, ?_, ?_, ?_, ?_, ?_, ?_, ?_, .inr ⟨s, hs, ?_, ?_, ?_, ?_, .inr (.inl ⟨?_, ?_, ?_, ?_, ?_, ?_⟩)⟩⟩
    all_goals first
      | (simp [sp_enq, sp_ment, sh_u2, t1, t5, g3, g4, r3, hz, hm1]; done)
      | (simp [sp_enq, sp_ment, sh_u2]; first | exact t7 | exact hm | exact he)
  · intro b; simp [sp_enq, sh_u2]
  · intro b; simp [sp_enq, sh_u2]
  · intro b; simp [sp_enq, sp_ment, sh_u2]
  · intro b; simp [sp_enq, sp_ment, sh_u2]
  · rw [rl_m_ent H0 ht h5 hz hs]; simp [sp_ment, sh_u2]
  · simp [sp_ment, sh_u2]
  · have : z = s := (nI_eq (by omega) (by omega)).mp ((rl_m_ent H0 ht h5 hz hs).mp hm).symm
    subst this
    unfold rl_o
    simp [sp_ment, sh_u2]
    exact ⟨hno, fun h6 => absurd h6 ‹¬ I 12 z = 6›⟩
/-- t leaves the gate s, and has its outcome -/
theorem rl_leave {K' I' : sh_II} {x : Int32} (H : rl_All K L I D R k c) (hs : s < 8) (ht : t ∈ R s) (hK : K' = sh_u2 (sh_u2 (sp_deq K s t (R s)) 4 t x) 27 t 0) (hI : I' = sh_u2 (sh_u2 (sp_mrem I s t (R s)) 1 t 0) 4 t x) : rl_All K' L I' D (rl_R R s (sp_rm (R s) t)) k c := by
  obtain ⟨ht6, w5, w1, w4, wen, wmd⟩ := rl_waiting H hs ht
  have hrm := fun z hz => rl_m_rmt H hs ht (z := z) hz
  have H0 := H
  obtain ⟨H1, H2, H3, H4, H5, H6, H7⟩ := H
  obtain ⟨t1, t2, t3, t4, t5, t6, t7, t8, t9, hp⟩ := H1 t ht6
  subst hK hI
  refine rl_upd (t := t) (s := 8) (q := 8) H0 (Nat.le_refl c) ?_ (fun u hu hne => ?_) (fun z hz hne _ => ?_) (fun z => ?_) ?_ (fun h => absurd h (by omega)) (fun h => absurd h (by omega)) (fun z hz => rl_w_rm H4 hs hz ?_ ?_ ?_ ?_) (fun z u hz hu hne => rl_m_rm hne) (fun z hz => ?_) (fun z hz => .inl ?_) ht6 (fun z hz hm => absurd hm (hrm z hz))
  · simp [rl_sG, sp_deq, sp_mrem, sp_row, sp_r18, sh_u2]
  · simp [rl_sT, sp_deq, sp_mrem, sp_row, sp_r18, sh_u2, hne]
  · simp [rl_sS, sp_deq, sp_mrem, sp_row, sp_r18, sh_u2]
  · simp [sp_mrem, sp_row, sp_r18, sh_u2]
  · simp [rl_t, rl_p, sp_deq, sp_mrem, sp_row, sp_r18, sh_u2, t1, t4, t5, t6, t7, t8, t9]
  · intro b; simp [sh_u2]
  · intro b; simp [sh_u2]
  · intro b; simp [sh_u2]
  · intro b; simp [sh_u2]
  · have := nI_m1 (u := z) (by omega)
    simp [hrm z hz, sp_mrem, sh_u2, this]
  · simp [sp_mrem, sp_row, sp_r18, sh_u2]
end RLF
