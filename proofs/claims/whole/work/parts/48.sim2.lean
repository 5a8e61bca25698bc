theorem fp_neg' {B : Nat} {x : UInt64} (hx : rl_fb B x) : rl_neg x ↔ fp_z x < 0 := fp_neg hx.1
section SMC
variable {A : Nat → Nat} {mq : Nat} {B : Nat → Nat} {dc dm : sh_Md} {ac am : List Value} {K K' : sh_II} {L L' : sh_DD} {I I' : sh_II} {D D' : sh_DD} {R R' : Nat → List Nat} {k c : Nat} {n : Nat → Bool}
theorem sm_ok.mono {c' : Nat} (h : sm_ok A mq B dc ac dm am K L I D k c n) (hc : c ≤ c') : sm_ok A mq B dc ac dm am K L I D k c' n := by
  obtain ⟨r, K', L', v, I', D', R', a, b, d, e⟩ := h
  exact ⟨r, K', L', v, I', D', R', a, b, d.mono hc, e⟩
theorem sp_mserve_00 {s m : Nat} {l : List Nat} : (sp_mserve s m I D l).1 0 0 = I 0 0 := sp_mserve_keepK (by decide) 0
theorem sp_MQ_00 {t s : Nat} {x : Int32} (h : sp_MQ I D t s x I' D') : I' 0 0 = I 0 0 := by
  obtain ⟨q, l, I1, D1, hq, e16, hz, hR, hrow, hlen, hv, rfl, rfl⟩ := h
  rw [sp_mserve_00]
  have e1 : sp_mqI I1 q t x l 0 0 = I1 0 0 := by simp [sp_mqI, sp_ment, sh_u2]
  rw [e1]
  rcases hR with ⟨-, l1, -, -, -, h⟩ | ⟨-, h, -⟩
  · rcases h with ⟨-, -, -, h, -⟩ | ⟨-, h, -⟩ <;> rw [h] <;> simp [sp_mrem, sp_row, sp_r18, sh_u2]
  · rw [h]
theorem sp_MG_00 {t s : Nat} {x : Int32} (h : sp_MG I D s t x I' D') : I' 0 0 = I 0 0 := by
  rcases h with ⟨-, h⟩ | ⟨-, l, l2, -, -, -, -, -, rfl, -⟩
  · exact sp_MQ_00 h
  · rw [sp_mserve_00]; simp [sp_mrem, sp_row, sp_r18, sh_u2]
theorem sm_interrupt {x : Int32} (H : rl_All K L I D R k c) (hc : c + 6 ≤ 2 ^ 20) : sm_ok A mq B md_Hall_interrupt [.ref (A 0), .int x] md_Mod_interrupt [.ref mq, .int x] K L I D k (c + 6) sm_1 := by
  rcases sm_rng (a := 5) (b := 6) (m := 5) (by decide) (by decide) x with h | ⟨h1, h2, h3⟩ | ⟨t, ht, rfl, -⟩
  · exact (sm_t2 1 H (ct_Hall_interrupt_x_1 h) (mx_Mod_interrupt_x_1 h) (by decide) (by decide)).mono (by omega)
  · exact (sm_t2 1 H (ct_Hall_interrupt_x_2 h1 h2) (mx_Mod_interrupt_x_2 h1 h3) (by decide) (by decide)).mono (by omega)
  obtain ⟨t1, t2, t3, t4, t5, t6, t7, t8, t9, hp⟩ := H.1 t ht
  have flag : rl_All (sh_u2 K 2 t 1) L (sh_u2 (sh_u2 I 0 0 0) 2 t 1) D R k c := by
    refine rl_thr (rl_00 (x := 0) H) ht (fun r b hn => ?_) (fun r b hn => ?_) ?_ ?_ ?_ (.inr ⟨?_, ?_⟩)
    · unfold sh_u2; rw [if_neg (fun e => hn (by simp [e]))]
    · show sh_u2 (sh_u2 I 0 0 0) 2 t 1 r b = _
      rw [show sh_u2 (sh_u2 I 0 0 0) 2 t 1 r b = if r = 2 ∧ b = t then 1 else sh_u2 I 0 0 0 r b from rfl, if_neg (fun e => hn (by simp [e]))]
    · rw [sh_u2_eq, sh_u2_eq]
    · rw [sh_u2_eq]; exact .inr rfl
    · simp [sh_u2]; exact t2
    · exact sh_u2_row (by decide) t
    · simp [sh_u2]
  rcases rl_place H ht with ⟨p5, -, i1⟩ | ⟨s, hs, p5, i5, i1, hts⟩
  · exact (sm_r (ct_Hall_interrupt_1 ht p5) (mx_Mod_interrupt_r_1 ht i1) flag (by rw [t2]) (by simp [sh_u2])).mono (by omega)
  obtain ⟨-, -, -, -, -, wmd⟩ := rl_waiting H hs hts
  have G := rl_giveUp (x := 3) (rl_00 (x := 0) H) hs hts (by decide) hc
  obtain ⟨K', L', I', D', R', gC, gM, gR, -⟩ := G
  have e4 := (gR.1 t ht).2.1
  have e00 := (sp_MG_00 gM).trans (sh_u2_eq _ _ _ _)
  have e12 : sh_u2 I 0 0 0 12 s = I 12 s := sh_u2_row (by decide) s
  rcases wmd with ⟨hz, k27, -, -⟩ | ⟨hz, -, k27, i9, -, -⟩ | ⟨hz, k27, -, i9, -⟩
  · rcases gM with ⟨-, gM⟩ | ⟨hz', -⟩
    · exact sm_r (ct_Hall_interrupt_2 ht hs p5 k27 gC) (mx_Mod_interrupt_b_1 ht hs i5 i1 hz gM) gR (by rw [e4]) e00
    · rw [e12] at hz'; exact absurd hz hz'
  · rcases gM with ⟨hz', -⟩ | ⟨-, l, l2, m1, m2, m3, m4, m5, rfl, rfl⟩
    · rw [e12] at hz'; exact absurd hz' hz
    · exact sm_r (ct_Hall_interrupt_2 ht hs p5 k27 gC) (mx_Mod_interrupt_b_2 ht hs i5 i1 hz (by rw [i9]; decide) m1 m2 m3 m4 m5) gR (by rw [e4]) e00
  · exact (sm_r (ct_Hall_interrupt_3 ht hs p5 (by rw [k27]; decide)) (mx_Mod_interrupt_b_3 ht hs i5 i1 (fun e => by rw [e] at hz; exact absurd hz (by decide)) (rl_pos_lt i9 (by omega))) flag (by rw [t2]) (by simp [sh_u2])).mono (by omega)
theorem sy_14 {s t : Nat} (X : sh_II) (d : Int32) : sh_u2 X 14 s d = sy_u X s t (X 13 s) d (X 15 s) (X 17 (6 * s + t)) := by
  funext a b
  simp [sy_u, sh_u2]; grind (splits := 40)
theorem sy_15 {s t : Nat} (X : sh_II) (p : Int32) : sh_u2 X 15 s p = sy_u X s t (X 13 s) (X 14 s) p (X 17 (6 * s + t)) := by
  funext a b
  simp [sy_u, sh_u2]; grind (splits := 40)
theorem sy_17 {s t : Nat} (X : sh_II) (r : Int32) : sh_u2 X 17 (6 * s + t) r = sy_u X s t (X 13 s) (X 14 s) (X 15 s) r := by
  funext a b
  simp [sy_u, sh_u2]; grind (splits := 40)
theorem sy_1413 {s t : Nat} (X : sh_II) (d o : Int32) : sh_u2 (sh_u2 X 14 s d) 13 s o = sy_u X s t o d (X 15 s) (X 17 (6 * s + t)) := by
  funext a b
  simp [sy_u, sh_u2]; grind (splits := 40)
theorem sy_141314 {s t : Nat} (X : sh_II) (e d o : Int32) : sh_u2 (sh_u2 (sh_u2 X 14 s e) 13 s o) 14 s d = sy_u X s t o d (X 15 s) (X 17 (6 * s + t)) := by
  funext a b
  simp [sy_u, sh_u2]; grind (splits := 40)
/-- a sync changes, and serves -/
theorem sm_rel {K1 I1 : sh_II} {o d p r : Int32} {s t : Nat} (H : rl_All K L I D R k c) (ht : t < 6) (hs : s < 8) (hz : ¬ I 12 s = 6) (hc : c + 6 ≤ 2 ^ 20) (hK : K1 = sy_u K s t o d p r) (hI : I1 = sy_u (sh_u2 I 0 0 0) s t o d p r) (how : rl_ow c (I 12 s) o d) (hpm : rl_pm (I 12 s) p) (hrd : rl_rd c (I 12 s) r) (ho : o = I 13 s ∨ o = -1) :
    sp_svok (L 11 0) s (R s).length K1 L (R s) ∧ cw_row I1 s (R s) ∧ sp_mvok s (R s).length I1 D (R s) ∧ (∃ R', rl_All (sp_serve (L 11 0) s (R s).length K1 L (R s)).1 (sp_serve (L 11 0) s (R s).length K1 L (R s)).2 (sp_mserve s (R s).length I1 D (R s)).1 (sp_mserve s (R s).length I1 D (R s)).2 R' k (c + 6)) ∧ (sp_mserve s (R s).length I1 D (R s)).1 0 0 = 0 := by
  have e12 : sh_u2 I 0 0 0 12 s = I 12 s := sh_u2_row (by decide) s
  have H1 := rl_syn (rl_00 (x := 0) H) ht hs hK hI (Nat.le_refl c) (by rw [e12]; exact how) (by rw [e12]; exact hpm) (by rw [e12]; exact hrd) (ho.elim (fun h => .inl (h.trans (sh_u2_row (by decide) s).symm)) (fun h => .inr (.inl h)))
  have e12' : I1 12 s = I 12 s := by rw [hI]; simp [sy_u, sh_u2]
  obtain ⟨S1, S2, R', S3, -⟩ := rl_serve6 H1 hs hc (by rw [e12']; exact hz)
  refine ⟨S1, (H1.2.2.2.1 s hs).2.1, S2, ⟨R', S3⟩, ?_⟩
  rw [sp_mserve_00, hI]
  simp [sy_u, sh_u2]
theorem rl_ow_dec {kd ow dp : Int32} {t : Nat} (ht : t < 6) (hc : c < 2 ^ 30) (h : rl_ow c kd ow dp) (ho : ow = nI t) : (¬ 0 < dp - 1 ∧ dp - 1 = 0) ∨ (0 < dp - 1 ∧ ¬ dp - 1 = 0 ∧ rl_ow c kd ow (dp - 1)) := by
  rcases h with ⟨h, -⟩ | ⟨hu, ⟨m, m1, m2, e⟩, hk⟩
  · rw [ho] at h; exact absurd h (nI_m1' (by omega))
  · obtain ⟨j, rfl⟩ : ∃ j, m = j + 1 := ⟨m - 1, by omega⟩
    have e1 : dp - 1 = nI j := by rw [e, nI_pred]
    by_cases h0 : j = 0
    · left; rw [e1, h0]; decide
    · right
      refine ⟨by rw [e1]; exact nI_lt (a := 0) (by omega) (by omega), by rw [e1]; exact nI_ne0 (by omega) (by omega), .inr ⟨hu, ⟨j, by omega, by omega, e1⟩, hk⟩⟩
theorem rl_own {s t : Nat} (H : rl_All K L I D R k c) (hs : s < 8) (ht : t < 6) : (K 13 s = -1 ∧ ¬ I 13 s = nI t) ∨ (∃ u, u < 6 ∧ K 13 s = nI u ∧ u = t ∧ I 13 s = nI t) ∨ ∃ u, u < 6 ∧ K 13 s = nI u ∧ ¬ u = t ∧ ¬ I 13 s = nI t := by
  obtain ⟨-, y2, -, -, -, -, -, -, y9, -⟩ := H.2.1 s hs
  rcases y9 with ⟨h, -⟩ | ⟨⟨u, hu, h⟩, -, -⟩
  · exact .inl ⟨y2.trans h, fun q => by rw [q] at h; exact nI_m1' (by omega) h⟩
  · by_cases e : u = t
    · exact .inr (.inl ⟨u, hu, y2.trans h, e, e ▸ h⟩)
    · exact .inr (.inr ⟨u, hu, y2.trans h, e, fun q => nI_neq hu ht e (h.symm.trans q)⟩)
theorem sm_release_0 {s t : Nat} {m : Int32} (H : rl_All K L I D R k c) (ht : t < 6) (hs : s < 8) (hm : m = 0 ∨ m = 1) (hc : c + 6 ≤ 2 ^ 20) (p5 : K 5 t = -1) (i1 : I 1 t = 0) (hk : cw_cl (K 12 s) = 4) (hi : I 12 s = 0) : sm_ok A mq B md_Hall_release [.ref (A 0), .int (nI t), .int (nI s), .int m] md_Mod_release [.ref mq, .int (nI t), .int (nI s), .int m] K L I D k (c + 6) sm_4 := by
  obtain ⟨y1, y2, y3, y4, y5, y6, y7, y8, y9, y10, y11, y12, y13, y14⟩ := H.2.1 s hs
  obtain ⟨hr, hri, -⟩ := H.2.2.2.1 s hs
  have e19 : K 19 s = I 19 s := hr.1.trans hri.1.symm
  rcases rl_own H hs ht with ⟨o1, o2⟩ | ⟨u, hu, o1, o2, o3⟩ | ⟨u, hu, o1, o2, o3⟩
  · exact (sm_t2 3 H (ct_Hall_release_Lock_1 ht hs hm p5 hr hk o1) (mx_Mod_release_r0_3 ht hs hm hi i1 o2) (by decide) (by decide)).mono (by omega)
  · rcases rl_ow_dec ht (by omega) y9 o3 with ⟨d1, d2⟩ | ⟨d1, d2, d3⟩
    · obtain ⟨a, b, d, ⟨R', e⟩, f⟩ := sm_rel H ht hs (by rw [hi]; decide) hc (sy_141314 K ((K 14 s) - 1) 0 (-1)) (I1 := sh_u2 (sh_u2 (sh_u2 I 0 0 0) 14 s ((I 14 s) - 1)) 13 s (-1)) (by rw [d2, sy_1413 (t := t), show sh_u2 I 0 0 0 15 s = K 15 s by rw [y4]; exact sh_u2_row (by decide) s, show sh_u2 I 0 0 0 17 (6 * s + t) = K 17 (6 * s + t) by rw [(y14 t ht).1]; exact sh_u2_row (by decide) _]) (.inl ⟨rfl, rfl⟩) (by rw [y4]; exact y10) (by rw [(y14 t ht).1]; exact (y14 t ht).2) (.inr rfl)
      exact sm_r (ct_Hall_release_Lock_3 ht hs hm p5 hr hk hu o1 o2 (by rw [y3]; exact d1) a) (mx_Mod_release_r0_1 ht hs hm hi i1 o3 d2 b d) e (by rw [e19]) f
    · obtain ⟨a, b, d, ⟨R', e⟩, f⟩ := sm_rel H ht hs (by rw [hi]; decide) hc (sy_14 K ((K 14 s) - 1)) (I1 := sh_u2 (sh_u2 I 0 0 0) 14 s ((I 14 s) - 1)) (by rw [sy_14 (t := t), y3, show sh_u2 I 0 0 0 13 s = K 13 s by rw [y2]; exact sh_u2_row (by decide) s, show sh_u2 I 0 0 0 15 s = K 15 s by rw [y4]; exact sh_u2_row (by decide) s, show sh_u2 I 0 0 0 17 (6 * s + t) = K 17 (6 * s + t) by rw [(y14 t ht).1]; exact sh_u2_row (by decide) _]) (by rw [y2, y3]; exact d3) (by rw [y4]; exact y10) (by rw [(y14 t ht).1]; exact (y14 t ht).2) (.inl y2)
      exact sm_r (ct_Hall_release_Lock_2 ht hs hm p5 hr hk hu o1 o2 (by rw [y3]; exact d1) a) (mx_Mod_release_r0_2 ht hs hm hi i1 o3 d2 b d) e (by rw [e19]) f
  · exact (sm_t2 3 H (ct_Hall_release_Lock_4 ht hs hm p5 hr hk hu o1 o2) (mx_Mod_release_r0_3 ht hs hm hi i1 o3) (by decide) (by decide)).mono (by omega)
theorem sm_release_1 {s t : Nat} {m : Int32} (H : rl_All K L I D R k c) (ht : t < 6) (hs : s < 8) (hm : m = 0 ∨ m = 1) (hc : c + 6 ≤ 2 ^ 20) (p5 : K 5 t = -1) (i1 : I 1 t = 0) (hk : cw_cl (K 12 s) = 4) (hi : I 12 s = 1) : sm_ok A mq B md_Hall_release [.ref (A 0), .int (nI t), .int (nI s), .int m] md_Mod_release [.ref mq, .int (nI t), .int (nI s), .int m] K L I D k (c + 6) sm_4 := by
  obtain ⟨y1, y2, y3, y4, y5, y6, y7, y8, y9, y10, y11, y12, y13, y14⟩ := H.2.1 s hs
  obtain ⟨hr, hri, -⟩ := H.2.2.2.1 s hs
  have e19 : K 19 s = I 19 s := hr.1.trans hri.1.symm
  rcases rl_own H hs ht with ⟨o1, o2⟩ | ⟨u, hu, o1, o2, o3⟩ | ⟨u, hu, o1, o2, o3⟩
  · exact (sm_t2 3 H (ct_Hall_release_Lock_1 ht hs hm p5 hr hk o1) (mx_Mod_release_r1_3 ht hs hm hi i1 o2) (by decide) (by decide)).mono (by omega)
  · rcases rl_ow_dec ht (by omega) y9 o3 with ⟨d1, d2⟩ | ⟨d1, d2, d3⟩
    · obtain ⟨a, b, d, ⟨R', e⟩, f⟩ := sm_rel H ht hs (by rw [hi]; decide) hc (sy_141314 K ((K 14 s) - 1) 0 (-1)) (I1 := sh_u2 (sh_u2 (sh_u2 I 0 0 0) 14 s ((I 14 s) - 1)) 13 s (-1)) (by rw [d2, sy_1413 (t := t), show sh_u2 I 0 0 0 15 s = K 15 s by rw [y4]; exact sh_u2_row (by decide) s, show sh_u2 I 0 0 0 17 (6 * s + t) = K 17 (6 * s + t) by rw [(y14 t ht).1]; exact sh_u2_row (by decide) _]) (.inl ⟨rfl, rfl⟩) (by rw [y4]; exact y10) (by rw [(y14 t ht).1]; exact (y14 t ht).2) (.inr rfl)
      exact sm_r (ct_Hall_release_Lock_3 ht hs hm p5 hr hk hu o1 o2 (by rw [y3]; exact d1) a) (mx_Mod_release_r1_1 ht hs hm hi i1 o3 d2 b d) e (by rw [e19]) f
    · obtain ⟨a, b, d, ⟨R', e⟩, f⟩ := sm_rel H ht hs (by rw [hi]; decide) hc (sy_14 K ((K 14 s) - 1)) (I1 := sh_u2 (sh_u2 I 0 0 0) 14 s ((I 14 s) - 1)) (by rw [sy_14 (t := t), y3, show sh_u2 I 0 0 0 13 s = K 13 s by rw [y2]; exact sh_u2_row (by decide) s, show sh_u2 I 0 0 0 15 s = K 15 s by rw [y4]; exact sh_u2_row (by decide) s, show sh_u2 I 0 0 0 17 (6 * s + t) = K 17 (6 * s + t) by rw [(y14 t ht).1]; exact sh_u2_row (by decide) _]) (by rw [y2, y3]; exact d3) (by rw [y4]; exact y10) (by rw [(y14 t ht).1]; exact (y14 t ht).2) (.inl y2)
      exact sm_r (ct_Hall_release_Lock_2 ht hs hm p5 hr hk hu o1 o2 (by rw [y3]; exact d1) a) (mx_Mod_release_r1_2 ht hs hm hi i1 o3 d2 b d) e (by rw [e19]) f
  · exact (sm_t2 3 H (ct_Hall_release_Lock_4 ht hs hm p5 hr hk hu o1 o2) (mx_Mod_release_r1_3 ht hs hm hi i1 o3) (by decide) (by decide)).mono (by omega)
theorem sm_release_2 {s t : Nat} {m : Int32} (H : rl_All K L I D R k c) (ht : t < 6) (hs : s < 8) (hm : m = 0 ∨ m = 1) (hc : c + 6 ≤ 2 ^ 20) (p5 : K 5 t = -1) (i1 : I 1 t = 0) (hk : cw_cl (K 12 s) = 5) (hi : I 12 s = 2) : sm_ok A mq B md_Hall_release [.ref (A 0), .int (nI t), .int (nI s), .int m] md_Mod_release [.ref mq, .int (nI t), .int (nI s), .int m] K L I D k (c + 6) sm_4 := by
  obtain ⟨y1, y2, y3, y4, y5, y6, y7, y8, y9, ⟨p, p1, p2, p3⟩, y11, y12, y13, y14⟩ := H.2.1 s hs
  obtain ⟨hr, hri, -⟩ := H.2.2.2.1 s hs
  have e19 : K 19 s = I 19 s := hr.1.trans hri.1.symm
  by_cases h : p = 100
  · have h100 : I 15 s = 100 := by rw [p2, h]; rfl
    exact (sm_t2 4 H (ct_Hall_release_Semaphore_2 ht hs hm p5 hr hk (by rw [y4, h100]; decide)) (mx_Mod_release_r2_1 ht hs hm hi i1 h100) (by decide) (by decide)).mono (by omega)
  · have h100 : ¬ I 15 s = 100 := by rw [p2]; exact fun e => h ((nI_eq (b := 100) (by omega) (by omega)).mp e)
    have hlt : K 15 s < 100 := by rw [y4, p2]; exact nI_lt (b := 100) (by omega) (by omega)
    obtain ⟨a, b, d, ⟨R', e⟩, f⟩ := sm_rel H ht hs (by rw [hi]; decide) hc (sy_15 K ((K 15 s) + 1)) (I1 := sh_u2 (sh_u2 I 0 0 0) 15 s ((I 15 s) + 1)) (by rw [sy_15 (t := t), y4, show sh_u2 I 0 0 0 13 s = K 13 s by rw [y2]; exact sh_u2_row (by decide) s, show sh_u2 I 0 0 0 14 s = K 14 s by rw [y3]; exact sh_u2_row (by decide) s, show sh_u2 I 0 0 0 17 (6 * s + t) = K 17 (6 * s + t) by rw [(y14 t ht).1]; exact sh_u2_row (by decide) _]) (by rw [y2, y3]; exact y9) ⟨p + 1, by omega, by rw [y4, p2, nI_1], .inr (by rw [hi]; decide)⟩ (by rw [(y14 t ht).1]; exact (y14 t ht).2) (.inl y2)
    by_cases o : I 13 s = nI t
    · exact sm_r (ct_Hall_release_Semaphore_1 ht hs hm p5 hr hk hlt a) (mx_Mod_release_r2_2 ht hs hm hi i1 h100 o b d) e (by rw [e19]) f
    · exact sm_r (ct_Hall_release_Semaphore_1 ht hs hm p5 hr hk hlt a) (mx_Mod_release_r2_3 ht hs hm hi i1 h100 o b d) e (by rw [e19]) f
theorem sm_release_3 {s t : Nat} {m : Int32} (H : rl_All K L I D R k c) (ht : t < 6) (hs : s < 8) (hm : m = 0 ∨ m = 1) (hc : c + 6 ≤ 2 ^ 20) (p5 : K 5 t = -1) (i1 : I 1 t = 0) (hk : cw_cl (K 12 s) = 5) (hi : I 12 s = 3) : sm_ok A mq B md_Hall_release [.ref (A 0), .int (nI t), .int (nI s), .int m] md_Mod_release [.ref mq, .int (nI t), .int (nI s), .int m] K L I D k (c + 6) sm_4 := by
  obtain ⟨y1, y2, y3, y4, y5, y6, y7, y8, y9, ⟨p, p1, p2, p3⟩, y11, y12, y13, y14⟩ := H.2.1 s hs
  obtain ⟨hr, hri, -⟩ := H.2.2.2.1 s hs
  have e19 : K 19 s = I 19 s := hr.1.trans hri.1.symm
  by_cases h : p = 100
  · have h100 : I 15 s = 100 := by rw [p2, h]; rfl
    exact (sm_t2 4 H (ct_Hall_release_Semaphore_2 ht hs hm p5 hr hk (by rw [y4, h100]; decide)) (mx_Mod_release_r3_1 ht hs hm hi i1 h100) (by decide) (by decide)).mono (by omega)
  · have h100 : ¬ I 15 s = 100 := by rw [p2]; exact fun e => h ((nI_eq (b := 100) (by omega) (by omega)).mp e)
    have hlt : K 15 s < 100 := by rw [y4, p2]; exact nI_lt (b := 100) (by omega) (by omega)
    obtain ⟨a, b, d, ⟨R', e⟩, f⟩ := sm_rel H ht hs (by rw [hi]; decide) hc (sy_15 K ((K 15 s) + 1)) (I1 := sh_u2 (sh_u2 I 0 0 0) 15 s ((I 15 s) + 1)) (by rw [sy_15 (t := t), y4, show sh_u2 I 0 0 0 13 s = K 13 s by rw [y2]; exact sh_u2_row (by decide) s, show sh_u2 I 0 0 0 14 s = K 14 s by rw [y3]; exact sh_u2_row (by decide) s, show sh_u2 I 0 0 0 17 (6 * s + t) = K 17 (6 * s + t) by rw [(y14 t ht).1]; exact sh_u2_row (by decide) _]) (by rw [y2, y3]; exact y9) ⟨p + 1, by omega, by rw [y4, p2, nI_1], .inr (by rw [hi]; decide)⟩ (by rw [(y14 t ht).1]; exact (y14 t ht).2) (.inl y2)
    by_cases o : I 13 s = nI t
    · exact sm_r (ct_Hall_release_Semaphore_1 ht hs hm p5 hr hk hlt a) (mx_Mod_release_r3_2 ht hs hm hi i1 h100 o b d) e (by rw [e19]) f
    · exact sm_r (ct_Hall_release_Semaphore_1 ht hs hm p5 hr hk hlt a) (mx_Mod_release_r3_3 ht hs hm hi i1 h100 o b d) e (by rw [e19]) f
theorem sm_release_4 {s t : Nat} {m : Int32} (H : rl_All K L I D R k c) (ht : t < 6) (hs : s < 8) (hm : m = 0 ∨ m = 1) (hc : c + 6 ≤ 2 ^ 20) (p5 : K 5 t = -1) (i1 : I 1 t = 0) (hk : cw_cl (K 12 s) = 6) (hi : I 12 s = 4) : sm_ok A mq B md_Hall_release [.ref (A 0), .int (nI t), .int (nI s), .int m] md_Mod_release [.ref mq, .int (nI t), .int (nI s), .int m] K L I D k (c + 6) sm_4 := by
  obtain ⟨y1, y2, y3, y4, y5, y6, y7, y8, y9, ⟨p, p1, p2, p3⟩, y11, y12, y13, y14⟩ := H.2.1 s hs
  obtain ⟨hr, hri, -⟩ := H.2.2.2.1 s hs
  have e19 : K 19 s = I 19 s := hr.1.trans hri.1.symm
  by_cases h : p = 0
  · have h0 : I 15 s = 0 := by rw [p2, h]; rfl
    have hle : I 15 s ≤ 0 := by rw [h0]; decide
    obtain ⟨a, b, d, ⟨R', e⟩, f⟩ := sm_rel H ht hs (by rw [hi]; decide) hc (sy_id K s t).symm (I1 := sh_u2 (sh_u2 I 0 0 0) 15 s 0) (by rw [sy_15 (t := t), y4, h0, show sh_u2 I 0 0 0 13 s = K 13 s by rw [y2]; exact sh_u2_row (by decide) s, show sh_u2 I 0 0 0 14 s = K 14 s by rw [y3]; exact sh_u2_row (by decide) s, show sh_u2 I 0 0 0 17 (6 * s + t) = K 17 (6 * s + t) by rw [(y14 t ht).1]; exact sh_u2_row (by decide) _]) (by rw [y2, y3]; exact y9) ⟨p, by omega, by rw [y4, p2], p3⟩ (by rw [(y14 t ht).1]; exact (y14 t ht).2) (.inl y2)
    by_cases o : I 13 s = nI t
    · exact sm_r (ct_Hall_release_Latch_1 ht hs hm p5 hr hk (by rw [y4]; exact hle) a) (mx_Mod_release_r4_1 ht hs hm hi i1 o hle b d) e (by rw [e19]) f
    · exact sm_r (ct_Hall_release_Latch_1 ht hs hm p5 hr hk (by rw [y4]; exact hle) a) (mx_Mod_release_r4_3 ht hs hm hi i1 o hle b d) e (by rw [e19]) f
  · obtain ⟨j, rfl⟩ : ∃ j, p = j + 1 := ⟨p - 1, by omega⟩
    have hle : ¬ I 15 s ≤ 0 := by rw [p2]; exact nI_nle (by omega) (by omega)
    obtain ⟨a, b, d, ⟨R', e⟩, f⟩ := sm_rel H ht hs (by rw [hi]; decide) hc (sy_15 K ((K 15 s) - 1)) (I1 := sh_u2 (sh_u2 I 0 0 0) 15 s ((I 15 s) - 1)) (by rw [sy_15 (t := t), y4, show sh_u2 I 0 0 0 13 s = K 13 s by rw [y2]; exact sh_u2_row (by decide) s, show sh_u2 I 0 0 0 14 s = K 14 s by rw [y3]; exact sh_u2_row (by decide) s, show sh_u2 I 0 0 0 17 (6 * s + t) = K 17 (6 * s + t) by rw [(y14 t ht).1]; exact sh_u2_row (by decide) _]) (by rw [y2, y3]; exact y9) ⟨j, by omega, by rw [y4, p2, nI_pred], .inr (by rw [hi]; decide)⟩ (by rw [(y14 t ht).1]; exact (y14 t ht).2) (.inl y2)
    by_cases o : I 13 s = nI t
    · exact sm_r (ct_Hall_release_Latch_2 ht hs hm p5 hr hk (by rw [y4]; exact hle) a) (mx_Mod_release_r4_2 ht hs hm hi i1 o hle b d) e (by rw [e19]) f
    · exact sm_r (ct_Hall_release_Latch_2 ht hs hm p5 hr hk (by rw [y4]; exact hle) a) (mx_Mod_release_r4_4 ht hs hm hi i1 o hle b d) e (by rw [e19]) f
theorem sm_release_5 {s t : Nat} {m : Int32} (H : rl_All K L I D R k c) (ht : t < 6) (hs : s < 8) (hm : m = 0 ∨ m = 1) (hc : c + 6 ≤ 2 ^ 20) (p5 : K 5 t = -1) (i1 : I 1 t = 0) (hk : cw_cl (K 12 s) = 7) (hi : I 12 s = 5) : sm_ok A mq B md_Hall_release [.ref (A 0), .int (nI t), .int (nI s), .int m] md_Mod_release [.ref mq, .int (nI t), .int (nI s), .int m] K L I D k (c + 6) sm_4 := by
  obtain ⟨y1, y2, y3, y4, y5, y6, y7, y8, y9, y10, y11, y12, y13, y14⟩ := H.2.1 s hs
  obtain ⟨hr, hri, -⟩ := H.2.2.2.1 s hs
  have e19 : K 19 s = I 19 s := hr.1.trans hri.1.symm
  obtain ⟨e17, p, p1, p2, p3⟩ := y14 t ht
  by_cases hm0 : m = 0
  · by_cases h : p = 0
    · have h0 : I 17 (6 * s + t) = 0 := by rw [p2, h]; rfl
      by_cases o : I 13 s = nI t
      · exact (sm_t2 3 H (ct_Hall_release_Shared_2 ht hs hm p5 hr hk hm0 (by rw [e17, h0]; decide)) (mx_Mod_release_r5_1 ht hs hm hi i1 o hm0 h0) (by decide) (by decide)).mono (by omega)
      · exact (sm_t2 3 H (ct_Hall_release_Shared_2 ht hs hm p5 hr hk hm0 (by rw [e17, h0]; decide)) (mx_Mod_release_r5_5 ht hs hm hi i1 o hm0 h0) (by decide) (by decide)).mono (by omega)
    · obtain ⟨j, rfl⟩ : ∃ j, p = j + 1 := ⟨p - 1, by omega⟩
      have h0 : ¬ I 17 (6 * s + t) = 0 := by rw [p2]; exact nI_ne0 (by omega) (by omega)
      have hlt : 0 < K 17 (6 * s + t) := by rw [e17, p2]; exact nI_lt (a := 0) (by omega) (by omega)
      obtain ⟨a, b, d, ⟨R', e⟩, f⟩ := sm_rel H ht hs (by rw [hi]; decide) hc (sy_17 K ((K 17 (6 * s + t)) - 1)) (I1 := sh_u2 (sh_u2 I 0 0 0) 17 (6 * s + t) ((I 17 (6 * s + t)) - 1)) (by rw [sy_17 (t := t), e17, show sh_u2 I 0 0 0 13 s = K 13 s by rw [y2]; exact sh_u2_row (by decide) s, show sh_u2 I 0 0 0 14 s = K 14 s by rw [y3]; exact sh_u2_row (by decide) s, show sh_u2 I 0 0 0 15 s = K 15 s by rw [y4]; exact sh_u2_row (by decide) s]) (by rw [y2, y3]; exact y9) (by rw [y4]; exact y10) ⟨j, by omega, by rw [e17, p2, nI_pred], .inr hi⟩ (.inl y2)
      by_cases o : I 13 s = nI t
      · exact sm_r (ct_Hall_release_Shared_1 ht hs hm p5 hr hk hm0 hlt a) (mx_Mod_release_r5_2 ht hs hm hi i1 o hm0 h0 b d) e (by rw [e19]) f
      · exact sm_r (ct_Hall_release_Shared_1 ht hs hm p5 hr hk hm0 hlt a) (mx_Mod_release_r5_6 ht hs hm hi i1 o hm0 h0 b d) e (by rw [e19]) f
  · rcases rl_own H hs ht with ⟨o1, o2⟩ | ⟨u, hu, o1, o2, o3⟩ | ⟨u, hu, o1, o2, o3⟩
    · exact (sm_t2 3 H (ct_Hall_release_Shared_3 ht hs hm p5 hr hk hm0 o1) (mx_Mod_release_r5_7 ht hs hm hi i1 o2 hm0) (by decide) (by decide)).mono (by omega)
    · rcases rl_ow_dec ht (by omega) y9 o3 with ⟨d1, d2⟩ | ⟨d1, d2, d3⟩
      · obtain ⟨a, b, d, ⟨R', e⟩, f⟩ := sm_rel H ht hs (by rw [hi]; decide) hc (sy_1413 K ((K 14 s) - 1) (-1)) (I1 := sh_u2 (sh_u2 (sh_u2 I 0 0 0) 14 s ((I 14 s) - 1)) 13 s (-1)) (by rw [sy_1413 (t := t), y3, show sh_u2 I 0 0 0 15 s = K 15 s by rw [y4]; exact sh_u2_row (by decide) s, show sh_u2 I 0 0 0 17 (6 * s + t) = K 17 (6 * s + t) by rw [(y14 t ht).1]; exact sh_u2_row (by decide) _]) (.inl ⟨rfl, by rw [y3]; exact d2⟩) (by rw [y4]; exact y10) (by rw [(y14 t ht).1]; exact (y14 t ht).2) (.inr rfl)
        exact sm_r (ct_Hall_release_Shared_5 ht hs hm p5 hr hk hm0 hu o1 o2 (by rw [y3]; exact d1) a) (mx_Mod_release_r5_3 ht hs hm hi i1 o3 hm0 d2 b d) e (by rw [e19]) f
      · obtain ⟨a, b, d, ⟨R', e⟩, f⟩ := sm_rel H ht hs (by rw [hi]; decide) hc (sy_14 K ((K 14 s) - 1)) (I1 := sh_u2 (sh_u2 I 0 0 0) 14 s ((I 14 s) - 1)) (by rw [sy_14 (t := t), y3, show sh_u2 I 0 0 0 13 s = K 13 s by rw [y2]; exact sh_u2_row (by decide) s, show sh_u2 I 0 0 0 15 s = K 15 s by rw [y4]; exact sh_u2_row (by decide) s, show sh_u2 I 0 0 0 17 (6 * s + t) = K 17 (6 * s + t) by rw [(y14 t ht).1]; exact sh_u2_row (by decide) _]) (by rw [y2, y3]; exact d3) (by rw [y4]; exact y10) (by rw [(y14 t ht).1]; exact (y14 t ht).2) (.inl y2)
        exact sm_r (ct_Hall_release_Shared_4 ht hs hm p5 hr hk hm0 hu o1 o2 (by rw [y3]; exact d1) a) (mx_Mod_release_r5_4 ht hs hm hi i1 o3 hm0 d2 b d) e (by rw [e19]) f
    · exact (sm_t2 3 H (ct_Hall_release_Shared_6 ht hs hm p5 hr hk hm0 hu o1 o2) (mx_Mod_release_r5_7 ht hs hm hi i1 o3 hm0) (by decide) (by decide)).mono (by omega)
theorem sm_md {m : Int32} (h1 : ¬ m < 0) (h2 : m ≤ 1) : m = 0 ∨ m = 1 := by
  obtain ⟨j, hj, rfl⟩ := nI_of2 (n := 1) (by decide) h1 h2
  rcases j with _ | _ | j
  · exact .inl rfl
  · exact .inr rfl
  · omega
theorem sm_release {x o m : Int32} (H : rl_All K L I D R k c) (hc : c + 6 ≤ 2 ^ 20) : sm_ok A mq B md_Hall_release [.ref (A 0), .int x, .int o, .int m] md_Mod_release [.ref mq, .int x, .int o, .int m] K L I D k (c + 6) sm_4 := by
  rcases sm_rng (a := 5) (b := 6) (m := 5) (by decide) (by decide) x with h | ⟨h1, h2, h3⟩ | ⟨t, ht, rfl, -⟩
  · exact (sm_t1 1 H (ct_Hall_release_x_1 h) (mx_Mod_release_x_1 h) (by decide) (by decide)).mono (by omega)
  · exact (sm_t1 1 H (ct_Hall_release_x_2 h1 h2) (mx_Mod_release_x_6 h1 h3) (by decide) (by decide)).mono (by omega)
  rcases sm_rng (a := 1) (b := 2) (m := 1) (by decide) (by decide) m with h | ⟨h1, h2, h3⟩ | ⟨i, hi, -, m1, m2, m3⟩
  · rcases sm_rng (a := 7) (b := 8) (m := 7) (by decide) (by decide) o with g | ⟨g1, g2, g3⟩ | ⟨s, hs, -, g1, g2, g3⟩
    · exact (sm_t1 1 H (ct_Hall_release_t_1 ht h) (mx_Mod_release_t_1 ht g) (by decide) (by decide)).mono (by omega)
    · exact (sm_t1 1 H (ct_Hall_release_t_1 ht h) (mx_Mod_release_t_4 ht g1 g3) (by decide) (by decide)).mono (by omega)
    · exact (sm_t1 1 H (ct_Hall_release_t_1 ht h) (mx_Mod_release_t_2 ht g1 g3 h) (by decide) (by decide)).mono (by omega)
  · rcases sm_rng (a := 7) (b := 8) (m := 7) (by decide) (by decide) o with g | ⟨g1, g2, g3⟩ | ⟨s, hs, -, g1, g2, g3⟩
    · exact (sm_t1 1 H (ct_Hall_release_t_4 ht h1 h2) (mx_Mod_release_t_1 ht g) (by decide) (by decide)).mono (by omega)
    · exact (sm_t1 1 H (ct_Hall_release_t_4 ht h1 h2) (mx_Mod_release_t_4 ht g1 g3) (by decide) (by decide)).mono (by omega)
    · exact (sm_t1 1 H (ct_Hall_release_t_4 ht h1 h2) (mx_Mod_release_t_3 ht g1 g3 h1 h3) (by decide) (by decide)).mono (by omega)
  have hm := sm_md m1 m2
  rcases sm_rng (a := 7) (b := 8) (m := 7) (by decide) (by decide) o with g | ⟨g1, g2, g3⟩ | ⟨s, hs, rfl, g1, g2, g3⟩
  · exact (sm_t1 1 H (ct_Hall_release_t_2 ht m1 m2 g) (mx_Mod_release_t_1 ht g) (by decide) (by decide)).mono (by omega)
  · exact (sm_t1 1 H (ct_Hall_release_t_3 ht m1 m2 g1 g2) (mx_Mod_release_t_4 ht g1 g3) (by decide) (by decide)).mono (by omega)
  have y1 := (H.2.1 s hs).1
  have y8 := (H.2.1 s hs).2.2.2.2.2.2.2.1
  rw [← y1] at y8
  rcases rl_place H ht with ⟨p5, -, i1⟩ | ⟨b, hb, p5, -, i1, -⟩
  · rcases rl_kdcl y8 with ⟨e, hk, h0⟩ | ⟨hk, h0, e⟩ | ⟨hk, h0, e⟩ | ⟨hk, h0, e⟩ | ⟨hk, h0, e⟩ | ⟨hk, h0, e⟩ <;> rw [y1] at e h0
    · exact (sm_t1 2 H (ct_Hall_release_none_1 ht hs hk hm) (mx_Mod_release_none_1 ht hs hm h0) (by decide) (by decide)).mono (by omega)
    · rcases e with e | e
      · exact sm_release_0 H ht hs hm hc p5 i1 hk e
      · exact sm_release_1 H ht hs hm hc p5 i1 hk e
    · rcases e with e | e
      · exact sm_release_2 H ht hs hm hc p5 i1 hk e
      · exact sm_release_3 H ht hs hm hc p5 i1 hk e
    · exact sm_release_4 H ht hs hm hc p5 i1 hk e
    · exact sm_release_5 H ht hs hm hc p5 i1 hk e
    · exact (sm_t2 4 H (ct_Hall_release_Condition_1 ht hs hm p5 hk) (mx_Mod_release_r6_1 ht hs hm e i1) (by decide) (by decide)).mono (by omega)
  · rcases rl_kdcl y8 with ⟨e, hk, h0⟩ | ⟨hk, h0, e⟩ | ⟨hk, h0, e⟩ | ⟨hk, h0, e⟩ | ⟨hk, h0, e⟩ | ⟨hk, h0, e⟩ <;> rw [y1] at h0
    · exact (sm_t1 2 H (ct_Hall_release_none_1 ht hs hk hm) (mx_Mod_release_none_1 ht hs hm h0) (by decide) (by decide)).mono (by omega)
    · exact (sm_t1 3 H (ct_Hall_release_Lockb_1 ht hs hm hb p5 hk) (mx_Mod_release_b_1 ht hs hm h0 i1) (by decide) (by decide)).mono (by omega)
    · exact (sm_t1 3 H (ct_Hall_release_Semaphoreb_1 ht hs hm hb p5 hk) (mx_Mod_release_b_1 ht hs hm h0 i1) (by decide) (by decide)).mono (by omega)
    · exact (sm_t1 3 H (ct_Hall_release_Latchb_1 ht hs hm hb p5 hk) (mx_Mod_release_b_1 ht hs hm h0 i1) (by decide) (by decide)).mono (by omega)
    · exact (sm_t1 3 H (ct_Hall_release_Sharedb_1 ht hs hm hb p5 hk) (mx_Mod_release_b_1 ht hs hm h0 i1) (by decide) (by decide)).mono (by omega)
    · exact (sm_t1 3 H (ct_Hall_release_Conditionb_1 ht hs hm hb p5 hk) (mx_Mod_release_b_1 ht hs hm h0 i1) (by decide) (by decide)).mono (by omega)
end SMC
