section RLG
variable {K : sh_II} {L : sh_DD} {I : sh_II} {D : sh_DD} {R : Nat → List Nat} {k c s t q : Nat}
/-- from the condition s to its lock q -/
theorem rl_move {K' I' : sh_II} {L' D' : sh_DD} {x a : Int32} {b : UInt64} {c' : Nat} (H : rl_All K L I D R k c) (hs : s < 8) (hq : q < 8) (ht : t ∈ R s) (hk : I 12 s = 6) (e16 : I 16 s = nI q) (hkq : I 12 q = 0 ∨ I 12 q = 1) (hc : c ≤ c') (ha : rl_nat c' a) (hb : rl_fb (c' * 1024000) b)
    (hK : K' = sp_qK (sp_deq (sh_u2 K 21 s a) s t (R s)) q t x (R q)) (hL : L' = sh_u2 (sh_u2 L 20 s b) 8 t (L 11 0)) (hI : I' = sp_mqI (sp_mrem (sh_u2 I 21 s a) s t (R s)) q t x (R q)) (hD : D' = sh_u2 (sh_u2 (sh_u2 D 20 s b) 7 t 13830554455654793216) 8 t (D 11 0)) : rl_All K' L' I' D' (rl_R (rl_R R s (sp_rm (R s) t)) q (R q ++ [t])) k c' := by
  obtain ⟨ht6, w5, w1, w4, wen, wmd⟩ := rl_waiting H hs ht
  have hrm := fun z hz => rl_m_rmt H hs ht (z := z) hz
  have hqs : q ≠ s := fun e => by subst e; rw [hk] at hkq; revert hkq; decide
  have H0 := H
  obtain ⟨H1, H2, H3, H4, H5, H6, H7⟩ := H
  obtain ⟨t1, t2, t3, t4, t5, t6, t7, t8, t9, hp⟩ := H1 t ht6
  obtain ⟨y1, y2, y3, y4, y5, y6, y7, y8, y9, y10, y11, y12, y13, y14⟩ := H2 s hs
  obtain ⟨g1, g2, g3, g4, g5, g6, -⟩ := H7
  have hno := (H6 s hs t ht).2 hk q hq e16
  obtain ⟨m1, m2, m3⟩ : K 27 t = 0 ∧ K 9 t = I 9 t ∧ rl_pos c (I 9 t) := by
    rcases wmd with ⟨-, h⟩ | ⟨h, -⟩ | ⟨h, -⟩
    · exact h
    · exact absurd hk h
    · rw [hk] at h; exact absurd h (by decide)
  subst hK hL hI hD
  have hR1 : rl_R R s (sp_rm (R s) t) q = R q := rl_R_ne hqs
  have hw1 : ∀ z, z < 8 → rl_w (sp_deq (sh_u2 K 21 s a) s t (R s)) (sp_mrem (sh_u2 I 21 s a) s t (R s)) (rl_R R s (sp_rm (R s) t)) z := fun z hz => rl_w_rm H4 hs hz (fun b => by simp [sp_deq, sp_row, sp_r18, sh_u2]) (fun b => by simp [sp_deq, sp_row, sp_r18, sh_u2]) (fun b => by simp [sp_mrem, sp_row, sp_r18, sh_u2]) (fun b => by simp [sp_mrem, sp_row, sp_r18, sh_u2])
  have hy : rl_y (sp_qK (sp_deq (sh_u2 K 21 s a) s t (R s)) q t x (R q)) (sh_u2 (sh_u2 L 20 s b) 8 t (L 11 0)) (sp_mqI (sp_mrem (sh_u2 I 21 s a) s t (R s)) q t x (R q)) (sh_u2 (sh_u2 (sh_u2 D 20 s b) 7 t 13830554455654793216) 8 t (D 11 0)) c' s := by
    simp [rl_y, sp_qK, sp_enq, sp_ment, sp_mqI, sp_deq, sp_mrem, sp_row, sp_r18, sh_u2, y1, y2, y3, y4, y5, y8, hb, ha, hk, y10]
    exact ⟨by rw [← hk]; exact y8, by rw [← hk]; exact y9.mono hc, by rw [← hk]; exact y10, fun u hu => ⟨(y14 u hu).1, by rw [← hk]; exact (y14 u hu).2.mono hc⟩⟩
  rw [← hR1]
  have nm : ¬ t ∈ rl_R R s (sp_rm (R s) t) q := hrm q hq
  refine rl_upd (t := t) (s := s) (q := s) H0 hc ?_ (fun u hu hne => ?_) (fun z hz hne _ => ?_) (fun z => ?_) ?_ (fun _ => by rw [hR1]; exact hy) (fun _ => by rw [hR1]; exact hy) (fun z hz => rl_w_en hw1 hq hz ht6 nm ?_ ?_ ?_ ?_) (fun z u hz hu hne => (rl_m_en hne).trans (rl_m_rm hne)) (fun z hz => ?_) (fun z hz => .inl ?_) ht6 (fun z hz hm => ?_)
  · simp [rl_sG, sp_qK, sp_enq, sp_ment, sp_mqI, sp_deq, sp_mrem, sp_row, sp_r18, sh_u2]
  · simp [rl_sT, sp_qK, sp_enq, sp_ment, sp_mqI, sp_deq, sp_mrem, sp_row, sp_r18, sh_u2, hne]
  · simp [rl_sS, sp_qK, sp_enq, sp_ment, sp_mqI, sp_deq, sp_mrem, sp_row, sp_r18, sh_u2, hne]
  · simp [sp_ment, sp_mqI, sp_mrem, sp_row, sp_r18, sh_u2]
  · refine ⟨?_, ?_, ?_, ?_, ?_, ?_, ?_, ?_, ?_, .inr ⟨q, hq, ?_, ?_, ?_, .inr ⟨?_, ?_⟩, .inr (.inr ⟨?_, ?_, ?_, ?_, ?_⟩)⟩⟩
    all_goals first
      | (simp [sp_qK, sp_enq, sp_ment, sp_mqI, sp_deq, sp_mrem, sp_row, sp_r18, sh_u2, t1, t5, g3, g4, w4, w1, m2, fp_m1]; done)
      | (simp [sp_qK, sp_enq, sp_ment, sp_mqI, sp_deq, sp_mrem, sp_row, sp_r18, sh_u2]; first | exact t7 | exact hkq | exact m3.mono hc)
  · intro b; simp [sp_qK, sp_enq, sh_u2]
  · intro b; simp [sp_qK, sp_enq, sh_u2]
  · intro b; simp [sp_enq, sp_mqI, sp_ment, sh_u2]
  · intro b; simp [sp_enq, sp_mqI, sp_ment, sh_u2]
  · rw [show sp_mqI (sp_mrem (sh_u2 I 21 s a) s t (R s)) q t x (rl_R R s (sp_rm (R s) t) q) 5 t = nI q by simp [sp_mqI, sp_ment, sh_u2], nI_eq (by omega) (by omega)]
    by_cases e : z = q
    · subst e; rw [rl_R_eq]; simp
    · rw [rl_R_ne e]
      exact ⟨fun h => absurd h (hrm z hz), fun h => absurd h.symm e⟩
  · simp [sp_ment, sp_mqI, sp_mrem, sp_row, sp_r18, sh_u2]
  · by_cases e : z = q
    · subst e
      unfold rl_o
      simp [sp_ment, sp_mqI, sp_mrem, sp_row, sp_r18, sh_u2]
      exact ⟨fun _ => hno, fun h6 => by rw [h6] at hkq; exact absurd hkq (by decide)⟩
    · rw [rl_R_ne e] at hm
      exact absurd hm (hrm z hz)
/-- into the condition s, its lock q given up -/
theorem rl_await {K' I' : sh_II} {L' D' : sh_DD} {e : Int32} {x y : UInt64} (H : rl_All K L I D R k c) (hs : s < 8) (hq : q < 8) (ht : t < 6) (hk : I 12 s = 6) (e16 : I 16 s = nI q) (hkq : I 12 q = 0 ∨ I 12 q = 1) (h5 : I 5 t = -1) (how : I 13 q = nI t) (he : rl_en e x y)
    (hK : K' = sh_u2 (sp_enq (sh_u2 (sh_u2 (sh_u2 K 9 t (K 14 q)) 13 q (-1)) 14 q 0) s t 0 (R s)) 26 t e) (hL : L' = sh_u2 (sh_u2 L 8 t (L 11 0)) 7 t x) (hI : I' = sp_ment (sh_u2 (sh_u2 (sh_u2 (sh_u2 (sh_u2 I 9 t (I 14 q)) 13 q (-1)) 14 q 0) 4 t 0) 6 t 0) s t (R s)) (hD : D' = sh_u2 (sh_u2 D 7 t y) 8 t (D 11 0)) : rl_All K' L' I' D' (rl_R R s (R s ++ [t])) k c := by
  have hqs : q ≠ s := fun e => by subst e; rw [hk] at hkq; revert hkq; decide
  have H0 := H
  obtain ⟨H1, H2, H3, H4, H5, H6, H7⟩ := H
  obtain ⟨t1, t2, t3, t4, t5, t6, t7, t8, t9, hp⟩ := H1 t ht
  obtain ⟨r1, r2, r3⟩ := rl_running H0 ht h5
  obtain ⟨y1, y2, y3, y4, y5, y6, y7, y8, y9, y10, y11, y12, y13, y14⟩ := H2 q hq
  obtain ⟨g1, g2, g3, g4, g5, g6, -⟩ := H7
  have nm : ¬ t ∈ R s := rl_run H0 ht h5 hs
  have hps : rl_pos c (I 14 q) := by
    rcases y9 with ⟨h, -⟩ | ⟨-, h, -⟩
    · rw [how] at h; exact absurd h (nI_m1' (by omega))
    · exact h
  subst hK hL hI hD
  have hy : rl_y (sh_u2 (sp_enq (sh_u2 (sh_u2 (sh_u2 K 9 t (K 14 q)) 13 q (-1)) 14 q 0) s t 0 (R s)) 26 t e) (sh_u2 (sh_u2 L 8 t (L 11 0)) 7 t x) (sp_ment (sh_u2 (sh_u2 (sh_u2 (sh_u2 (sh_u2 I 9 t (I 14 q)) 13 q (-1)) 14 q 0) 4 t 0) 6 t 0) s t (R s)) (sh_u2 (sh_u2 D 7 t y) 8 t (D 11 0)) c q := by
    simp [rl_y, sp_enq, sp_ment, sh_u2, y1, y4, y5, y6, y7, y8, y10, y11, y12]
    exact ⟨.inl ⟨rfl, rfl⟩, y13, y14⟩
  refine rl_upd (t := t) (s := q) (q := q) H0 (Nat.le_refl c) ?_ (fun u hu hne => ?_) (fun z hz hne _ => ?_) (fun z => ?_) ?_ (fun _ => hy) (fun _ => hy) (fun z hz => rl_w_en H4 hs hz ht nm ?_ ?_ ?_ ?_) (fun z u hz hu hne => rl_m_en hne) (fun z hz => ?_) (fun z hz => ?_) ht (fun z hz hm => ?_)
  · simp [rl_sG, sp_enq, sp_ment, sh_u2]
  · simp [rl_sT, sp_enq, sp_ment, sh_u2, hne]
  · simp [rl_sS, sp_enq, sp_ment, sh_u2, hne]
  · simp [sp_ment, sh_u2]
  · refine ⟨?_, ?_, ?_, ?_, ?_, ?_, ?_, ?_, ?_, .inr ⟨s, hs, ?_, ?_, ?_, ?_, .inl ⟨?_, ?_, ?_, ?_⟩⟩⟩
    all_goals first
      | (simp [sp_enq, sp_ment, sh_u2, t1, t5, g3, g4, r3, hk, y3]; done)
      | (simp [sp_enq, sp_ment, sh_u2]; first | exact t7 | exact he | exact hps)
  · intro b; simp [sp_enq, sh_u2]
  · intro b; simp [sp_enq, sh_u2]
  · intro b; simp [sp_enq, sp_ment, sh_u2]
  · intro b; simp [sp_enq, sp_ment, sh_u2]
  · rw [rl_m_ent H0 ht h5 hz hs]; simp [sp_ment, sh_u2]
  · by_cases e : z = q
    · subst e; simp [sp_ment, sh_u2]
    · simp [sp_ment, sh_u2, e]
  · have : z = s := (nI_eq (by omega) (by omega)).mp ((rl_m_ent H0 ht h5 hz hs).mp hm).symm
    subst this
    unfold rl_o
    simp only [sp_ment, sh_u2]
    refine ⟨fun h => ?_, fun _ w hw e => ?_⟩
    · simp at h; rw [hk] at h; exact absurd h (by decide)
    · simp at e
      rw [e16] at e
      have : q = w := (nI_eq (by omega) (by omega)).mp e
      subst this
      simp; exact nI_m1 (by omega)
/-- back to the lock q at once -/
theorem rl_again {K' I' : sh_II} {L' D' : sh_DD} {x : Int32} (H : rl_All K L I D R k c) (hq : q < 8) (ht : t < 6) (hkq : I 12 q = 0 ∨ I 12 q = 1) (h5 : I 5 t = -1) (how : I 13 q = nI t)
    (hK : K' = sp_qK (sh_u2 (sh_u2 (sh_u2 K 9 t (K 14 q)) 13 q (-1)) 14 q 0) q t x (R q)) (hL : L' = sh_u2 L 8 t (L 11 0)) (hI : I' = sp_mqI (sh_u2 (sh_u2 (sh_u2 (sh_u2 I 9 t (I 14 q)) 13 q (-1)) 14 q 0) 4 t 0) q t x (R q)) (hD : D' = sh_u2 (sh_u2 D 7 t 13830554455654793216) 8 t (D 11 0)) : rl_All K' L' I' D' (rl_R R q (R q ++ [t])) k c := by
  have H0 := H
  obtain ⟨H1, H2, H3, H4, H5, H6, H7⟩ := H
  obtain ⟨t1, t2, t3, t4, t5, t6, t7, t8, t9, hp⟩ := H1 t ht
  obtain ⟨r1, r2, r3⟩ := rl_running H0 ht h5
  obtain ⟨y1, y2, y3, y4, y5, y6, y7, y8, y9, y10, y11, y12, y13, y14⟩ := H2 q hq
  obtain ⟨g1, g2, g3, g4, g5, g6, -⟩ := H7
  have nm : ¬ t ∈ R q := rl_run H0 ht h5 hq
  have hps : rl_pos c (I 14 q) := by
    rcases y9 with ⟨h, -⟩ | ⟨-, h, -⟩
    · rw [how] at h; exact absurd h (nI_m1' (by omega))
    · exact h
  subst hK hL hI hD
  have hy : rl_y (sp_qK (sh_u2 (sh_u2 (sh_u2 K 9 t (K 14 q)) 13 q (-1)) 14 q 0) q t x (R q)) (sh_u2 L 8 t (L 11 0)) (sp_mqI (sh_u2 (sh_u2 (sh_u2 (sh_u2 I 9 t (I 14 q)) 13 q (-1)) 14 q 0) 4 t 0) q t x (R q)) (sh_u2 (sh_u2 D 7 t 13830554455654793216) 8 t (D 11 0)) c q := by
    simp [rl_y, sp_qK, sp_mqI, sp_enq, sp_ment, sh_u2, y1, y4, y5, y6, y7, y8, y10, y11, y12]
    exact ⟨.inl ⟨rfl, rfl⟩, y13, y14⟩
  refine rl_upd (t := t) (s := q) (q := q) H0 (Nat.le_refl c) ?_ (fun u hu hne => ?_) (fun z hz hne _ => ?_) (fun z => ?_) ?_ (fun _ => hy) (fun _ => hy) (fun z hz => rl_w_en H4 hq hz ht nm ?_ ?_ ?_ ?_) (fun z u hz hu hne => rl_m_en hne) (fun z hz => ?_) (fun z hz => ?_) ht (fun z hz hm => ?_)
  · simp [rl_sG, sp_qK, sp_mqI, sp_enq, sp_ment, sh_u2]
  · simp [rl_sT, sp_qK, sp_mqI, sp_enq, sp_ment, sh_u2, hne]
  · simp [rl_sS, sp_qK, sp_mqI, sp_enq, sp_ment, sh_u2, hne]
  · simp [sp_mqI, sp_ment, sh_u2]
  · refine ⟨?_, ?_, ?_, ?_, ?_, ?_, ?_, ?_, ?_, .inr ⟨q, hq, ?_, ?_, ?_, .inr ⟨?_, ?_⟩, .inr (.inr ⟨?_, ?_, ?_, ?_, ?_⟩)⟩⟩
    all_goals first
      | (simp [sp_qK, sp_mqI, sp_enq, sp_ment, sh_u2, t1, t5, g3, g4, r2, y3, fp_m1]; done)
      | (simp [sp_qK, sp_mqI, sp_enq, sp_ment, sh_u2]; first | exact t7 | exact hkq | exact hps)
  · intro b; simp [sp_qK, sp_enq, sh_u2]
  · intro b; simp [sp_qK, sp_enq, sh_u2]
  · intro b; simp [sp_enq, sp_mqI, sp_ment, sh_u2]
  · intro b; simp [sp_enq, sp_mqI, sp_ment, sh_u2]
  · rw [rl_m_ent H0 ht h5 hz hq]; simp [sp_mqI, sp_ment, sh_u2]
  · by_cases e : z = q
    · subst e; simp [sp_mqI, sp_ment, sh_u2]
    · simp [sp_mqI, sp_ment, sh_u2, e]
  · have : z = q := (nI_eq (by omega) (by omega)).mp ((rl_m_ent H0 ht h5 hz hq).mp hm).symm
    subst this
    unfold rl_o
    simp only [sp_mqI, sp_ment, sh_u2]
    refine ⟨fun h => ?_, fun h => ?_⟩
    · simp; exact nI_m1 (by omega)
    · simp at h; rw [h] at hkq; exact absurd hkq (by decide)
end RLG
section RLH
variable {K : sh_II} {L : sh_DD} {I : sh_II} {D : sh_DD} {R : Nat → List Nat} {k c s t q : Nat}
theorem sp_serve_26 {p : UInt64} {s : Nat} {u : Nat} {n : Nat} {K : sh_II} {L : sh_DD} {l : List Nat} (h : K 26 u = 0) : (sp_serve p s n K L l).1 26 u = 0 := by
  induction n generalizing K L l with
  | zero => exact h
  | succ n ih =>
    unfold sp_serve
    split
    · exact h
    · split
      · refine ih ?_
        unfold sp_svK
        rw [sh_u2_row (by decide), sh_u2_row (by decide), sh_u2_row (by decide), sp_tk_keep (by decide), sh_u2_if]
        split
        · rfl
        · rw [sh_u2_row (by decide), sp_row_keep (by decide)]; exact h
      · exact h
theorem rl_len6 (H : rl_All K L I D R k c) (hs : s < 8) : (R s).length ≤ 6 := (H.2.2.2.1 s hs).1.2.1
theorem rl_serve6 {K : sh_II} {L : sh_DD} {I : sh_II} {D : sh_DD} {R : Nat → List Nat} {c : Nat} (H : rl_All K L I D R k c) (hs : s < 8) (hc : c + 6 ≤ 2 ^ 20) (hz : ¬ I 12 s = 6) :
    sp_svok (L 11 0) s (R s).length K L (R s) ∧ sp_mvok s (R s).length I D (R s) ∧ ∃ R', rl_All (sp_serve (L 11 0) s (R s).length K L (R s)).1 (sp_serve (L 11 0) s (R s).length K L (R s)).2 (sp_mserve s (R s).length I D (R s)).1 (sp_mserve s (R s).length I D (R s)).2 R' k (c + 6) ∧ ∀ z, z ≠ s → R' z = R z := by
  have hl := rl_len6 H hs
  obtain ⟨a, b, R', h, e⟩ := rl_serve (L 11 0) hs (R s).length K L I D R c H rfl (by omega) hz rfl
  exact ⟨a, b, R', h.mono (by omega), e⟩
/-- moved to the lock, which then serves -/
theorem rl_moved {x a : Int32} {b : UInt64} {c' : Nat} (H : rl_All K L I D R k c) (hs : s < 8) (hq : q < 8) (ht : t ∈ R s) (hk : I 12 s = 6) (e16 : I 16 s = nI q) (hkq : I 12 q = 0 ∨ I 12 q = 1) (hc : c ≤ c') (hc2 : c' + 6 ≤ 2 ^ 20) (ha : rl_nat c' a) (hb : rl_fb (c' * 1024000) b) :
    (cw_row (sp_deq (sh_u2 K 21 s a) s t (R s)) q (R q) ∧ (R q).length < 6 ∧ sp_qok (sp_deq (sh_u2 K 21 s a) s t (R s)) (sh_u2 L 20 s b) q t x (R q)) ∧ (cw_row (sp_mrem (sh_u2 I 21 s a) s t (R s)) q (R q) ∧ sp_mvok q (R q ++ [t]).length (sp_mqI (sp_mrem (sh_u2 I 21 s a) s t (R s)) q t x (R q)) (sp_mqD (sh_u2 D 20 s b) t) (R q ++ [t])) ∧
    ∃ R', rl_All (sp_qfl (sp_deq (sh_u2 K 21 s a) s t (R s)) (sh_u2 L 20 s b) q t x (R q)).1 (sp_qfl (sp_deq (sh_u2 K 21 s a) s t (R s)) (sh_u2 L 20 s b) q t x (R q)).2 (sp_mserve q (R q ++ [t]).length (sp_mqI (sp_mrem (sh_u2 I 21 s a) s t (R s)) q t x (R q)) (sp_mqD (sh_u2 D 20 s b) t) (R q ++ [t])).1 (sp_mserve q (R q ++ [t]).length (sp_mqI (sp_mrem (sh_u2 I 21 s a) s t (R s)) q t x (R q)) (sp_mqD (sh_u2 D 20 s b) t) (R q ++ [t])).2 R' k (c' + 6) ∧ R' s = sp_rm (R s) t := by
  have hqs : q ≠ s := fun e => by subst e; rw [hk] at hkq; exact absurd hkq (by decide)
  have H1 := rl_move (x := x) H hs hq ht hk e16 hkq hc ha hb rfl rfl rfl rfl
  have eD : sp_mqD (sh_u2 D 20 s b) t = sh_u2 (sh_u2 (sh_u2 D 20 s b) 7 t 13830554455654793216) 8 t (D 11 0) := by unfold sp_mqD; simp [sh_u2]
  have hR : rl_R (rl_R R s (sp_rm (R s) t)) q (R q ++ [t]) q = R q ++ [t] := rl_R_eq
  have h12 : sp_mqI (sp_mrem (sh_u2 I 21 s a) s t (R s)) q t x (R q) 12 q = I 12 q := by simp [sp_mqI, sp_ment, sp_mrem, sp_row, sp_r18, sh_u2]
  have S := rl_serve6 H1 hq hc2 (by rw [h12]; rcases hkq with h | h <;> rw [h] <;> decide)
  rw [hR, ← eD] at S
  have e11 : sh_u2 (sh_u2 L 20 s b) 8 t (L 11 0) 11 0 = L 11 0 := by simp [sh_u2]
  rw [e11] at S
  obtain ⟨S1, S2, R', S3, S4⟩ := S
  have hw := H.2.2.2.1
  have hl : (R q).length < 6 := rl_len (hw q hq).1 (hw q hq).2.2.1 (cw_row_lt (hw s hs).1 ht) (fun h => hqs (rl_only H hs ht hq h))
  have e20 : sh_u2 L 20 s b 11 0 = L 11 0 := by simp [sh_u2]
  refine ⟨⟨cw_row_deq' (fun e => hqs e.symm) (cw_row_up (by decide) (hw s hs).1) (cw_row_up (by decide) (hw q hq).1), hl, ?_⟩, ⟨?_, S2⟩, R', ?_, ?_⟩
  · unfold sp_qok; rw [e20]; exact S1
  · exact cw_row_f (X := sp_deq (sh_u2 I 21 s a) s t (R s)) (fun _ => rfl) (fun _ => rfl) (cw_row_deq' (fun e => hqs e.symm) (cw_row_up (by decide) (hw s hs).2.1) (cw_row_up (by decide) (hw q hq).2.1))
  · unfold sp_qfl; rw [e20]; exact S3
  · rw [S4 s (fun e => hqs e.symm), rl_R_ne (fun e => hqs e.symm), rl_R_eq]
/-- what the reference does where t gives up -/
def sp_MG (I : sh_II) (D : sh_DD) (s t : Nat) (x : Int32) (I' : sh_II) (D' : sh_DD) : Prop := (I 12 s = 6 ∧ sp_MQ I D t s x I' D') ∨ (¬ I 12 s = 6 ∧ ∃ l l2, cw_row I s l ∧ l.Nodup ∧ t ∈ l ∧ cw_row (sh_u2 (sh_u2 (sp_mrem I s t l) 1 t 0) 4 t x) s l2 ∧ sp_mvok s l2.length (sh_u2 (sh_u2 (sp_mrem I s t l) 1 t 0) 4 t x) D l2 ∧ I' = (sp_mserve s l2.length (sh_u2 (sh_u2 (sp_mrem I s t l) 1 t 0) 4 t x) D l2).1 ∧ D' = (sp_mserve s l2.length (sh_u2 (sh_u2 (sp_mrem I s t l) 1 t 0) 4 t x) D l2).2)
theorem rl_cl {x : Int32} (h : rl_kd x) (h6 : ¬ x = 6) (h1 : ¬ x = -1) : cw_cl x = 4 ∨ cw_cl x = 5 ∨ cw_cl x = 6 ∨ cw_cl x = 7 := by
  rcases h with h | h | h | h | h | h | h | h
  · exact absurd h h1
  all_goals first
    | exact absurd h h6
    | (rw [h]; decide)
theorem rl_kd_wait (H : rl_All K L I D R k c) (hs : s < 8) (ht : t ∈ R s) : ¬ I 12 s = -1 := fun e => by
  obtain ⟨-, -, -, -, -, hmd⟩ := rl_waiting H hs ht
  rcases hmd with ⟨h, -⟩ | ⟨-, h, -⟩ | ⟨h, -⟩
  · rw [e] at h; exact absurd h (by decide)
  · exact h e
  · rw [e] at h; exact absurd h (by decide)
theorem rl_giveUp {x : Int32} (H : rl_All K L I D R k c) (hs : s < 8) (ht : t ∈ R s) (hx : ¬ x = 1) (hc : c + 6 ≤ 2 ^ 20) :
    ∃ K' L' I' D' R', sp_GU K L t x K' L' ∧ sp_MG I D s t x I' D' ∧ rl_All K' L' I' D' R' k (c + 6) ∧ (∀ u, K 26 u = 0 → K' 26 u = 0) ∧ K' 26 t = 0 := by
  have H0 := H
  obtain ⟨H1, H2, H3, H4, H5, H6, H7⟩ := H
  obtain ⟨ht6, w5, w1, w4, wen, wmd⟩ := rl_waiting H0 hs ht
  have e5 : K 5 t = nI s := (H1 t ht6).2.2.1.trans w5
  have e12 : K 12 s = I 12 s := (H2 s hs).1
  by_cases hz : I 12 s = 6
  · obtain ⟨q, hq, e16, hkq⟩ := H3 s hs hz
    have e21 : sh_u2 K 21 s (I 21 s) = K := by rw [← (H2 s hs).2.2.2.2.2.1]; exact sh_u2_self K 21 s
    have i21 : sh_u2 I 21 s (I 21 s) = I := sh_u2_self I 21 s
    have e20 : sh_u2 L 20 s (D 20 s) = L := by rw [← (H2 s hs).2.2.2.2.2.2.1]; exact sh_u2_self L 20 s
    have d20 : sh_u2 D 20 s (D 20 s) = D := sh_u2_self D 20 s
    have S := rl_moved (x := x) (a := I 21 s) (b := D 20 s) H0 hs hq ht hz e16 hkq (Nat.le_refl c) hc (H2 s hs).2.2.2.2.2.2.2.2.2.2.1 (H2 s hs).2.2.2.2.2.2.2.2.2.2.2.1
    rw [e21, i21, e20, d20] at S
    obtain ⟨⟨a1, a2, a3⟩, ⟨b1, b2⟩, R', S3, -⟩ := S
    refine ⟨_, _, _, _, R', ⟨s, R s, hs, e5, (H4 s hs).1, .inl ⟨by rw [e12, hz]; decide, q, R q, hq, by rw [(H2 s hs).2.2.2.2.1]; exact e16, by rw [(H2 q hq).1]; exact cw_cl_4 hkq, a1, a2, a3, rfl, rfl⟩⟩, .inl ⟨hz, q, R q, _, _, hq, e16, fun e => by rw [e] at hkq; exact absurd hkq (by decide), .inl ⟨w5, R s, (H4 s hs).2.1, (H4 s hs).2.2.1, ht, .inr ⟨hx, rfl, rfl⟩⟩, b1, a2, b2, rfl, rfl⟩, S3, fun u hu => ?_, ?_⟩
    · refine sp_serve_26 ?_
      by_cases e : u = t
      · subst e; simp [sp_qK, sp_enq, sp_deq, sh_u2]
      · simp [sp_qK, sp_enq, sp_deq, sh_u2, e, sp_row, sp_r18]; exact hu
    · exact sp_serve_26 (by simp [sp_qK, sp_enq, sp_deq, sh_u2])
  · have L1 := rl_leave (x := x) H0 hs ht rfl rfl
    have h12 : sh_u2 (sh_u2 (sp_mrem I s t (R s)) 1 t 0) 4 t x 12 s = I 12 s := by simp [sp_mrem, sp_row, sp_r18, sh_u2]
    have S := rl_serve6 L1 hs hc (by rw [h12]; exact hz)
    have hR : rl_R R s (sp_rm (R s) t) s = sp_rm (R s) t := rl_R_eq
    have hw := L1.2.2.2.1 s hs
    unfold rl_w at hw
    rw [hR] at S hw
    obtain ⟨S1, S2, R', S3, -⟩ := S
    refine ⟨_, _, _, _, R', ⟨s, R s, hs, e5, (H4 s hs).1, .inr ⟨by rw [e12]; exact rl_cl (H2 s hs).2.2.2.2.2.2.2.1 hz (rl_kd_wait H0 hs ht), S1, rfl, rfl⟩⟩, .inr ⟨hz, R s, sp_rm (R s) t, (H4 s hs).2.1, (H4 s hs).2.2.1, ht, hw.2.1, S2, rfl, rfl⟩, S3, fun u hu => ?_, ?_⟩
    · refine sp_serve_26 ?_
      by_cases e : u = t
      · subst e; simp [sp_deq, sh_u2]
      · simp [sp_deq, sh_u2, e, sp_row, sp_r18]; exact hu
    · exact sp_serve_26 (by simp [sp_deq, sh_u2])
/-- the first of a condition's row goes to its lock -/
theorem rl_signalFirst {r : List Nat} (H : rl_All K L I D R k c) (hs : s < 8) (hl : R s = t :: r) (hz : I 12 s = 6) (hc : c + 7 ≤ 2 ^ 20) :
    ∃ K' L' I' D' R', sp_SF K L s K' L' ∧ sp_MQ I D t s 1 I' D' ∧ rl_All K' L' I' D' R' k (c + 7) ∧ R' s = r := by
  have ht : t ∈ R s := by rw [hl]; simp
  have H0 := H
  obtain ⟨H1, H2, H3, H4, H5, H6, H7⟩ := H
  obtain ⟨ht6, w5, w1, w4, wen, wmd⟩ := rl_waiting H0 hs ht
  obtain ⟨q, hq, e16, hkq⟩ := H3 s hs hz
  obtain ⟨v1, v2, v3⟩ := rl_sum H0 hs ht6 (by omega)
  have e21 := (H2 s hs).2.2.2.2.2.1
  have e20 := (H2 s hs).2.2.2.2.2.2.1
  have e8 := (H1 t ht6).2.2.2.2.2.1
  have e11 := H7.2.2.1
  have S := rl_moved (x := 1) (a := I 21 s + 1) (b := FP.dadd (D 20 s) (FP.dsub (D 11 0) (D 8 t))) H0 hs hq ht hz e16 hkq (Nat.le_succ c) (by omega) (rl_nat_1 (H2 s hs).2.2.2.2.2.2.2.2.2.2.1) v3
  obtain ⟨⟨a1, a2, a3⟩, ⟨b1, b2⟩, R', S3, S4⟩ := S
  refine ⟨_, _, _, _, R', ⟨q, R s, R q, t, hq, by rw [(H2 s hs).2.2.2.2.1]; exact e16, (H4 s hs).1, by rw [(H2 q hq).1]; exact cw_cl_4 hkq, by rw [hl]; rfl, by rw [e8, e11]; exact v1, by rw [e8, e11, e20]; exact v2, by rw [e21]; exact a1, a2, by rw [e21, e8, e11, e20]; exact a3, rfl, rfl⟩, ⟨q, R q, _, _, hq, e16, fun e => by rw [e] at hkq; exact absurd hkq (by decide), .inl ⟨w5, R s, (H4 s hs).2.1, (H4 s hs).2.2.1, ht, .inl ⟨rfl, v1, v2, rfl, rfl⟩⟩, b1, a2, b2, rfl, rfl⟩, ?_, ?_⟩
  · rw [e21, e8, e11, e20]; exact S3
  · have hn := (H4 s hs).2.2.1
    rw [S4, hl]
    rw [hl] at hn
    have hnr := (List.nodup_cons.mp hn).1
    unfold sp_rm
    rw [List.filter_cons]
    simp
    exact fun a ha e => hnr (e ▸ ha)
end RLH
