section RLR
variable {K : sh_II} {L : sh_DD} {I : sh_II} {D : sh_DD} {R : Nat → List Nat} {k c s t : Nat}
/-- doubles of the hall or of threads' priorities have changed -/
theorem rl_rank {y : UInt64} (H : rl_All K L I D R k c) : rl_All K (sh_u2 L 3 t y) I (sh_u2 D 3 t y) R k c := by
  obtain ⟨H1, H2, H3, H4, H5, H6, H7⟩ := H
  refine ⟨fun u hu => ?_, fun z hz => rl_y_same (by simp [rl_sS, sh_u2]) (H2 z hz), H3, H4, H5, H6, rl_g_same (by simp [rl_sG, sh_u2]) H7⟩
  obtain ⟨t1, t2, t3, t4, t5, t6, t7, t8, t9, hp⟩ := H1 u hu
  refine ⟨t1, t2, t3, t4, ?_, by simp [sh_u2]; exact t6, t7, t8, by simp [sh_u2]; exact t9, ?_⟩
  · by_cases e : u = t
    · subst e; simp [sh_u2]
    · simp [sh_u2, e]; exact t5
  · unfold rl_p at *; simp [sh_u2]; simpa using hp
theorem rl_policy {p : Int32} (H : rl_All K L I D R k c) : rl_All (sh_u2 K 24 0 p) L (sh_u2 I 24 0 p) D R k c := by
  obtain ⟨H1, H2, H3, H4, H5, H6, H7⟩ := H
  refine ⟨fun u hu => rl_t_same (by simp [rl_sT, sh_u2]) (by simp [sh_u2]) (H1 u hu), fun z hz => rl_y_same (by simp [rl_sS, sh_u2]) (H2 z hz), fun z hz => ?_, fun z hz => ⟨cw_row_up (by decide) (H4 z hz).1, cw_row_up (by decide) (H4 z hz).2.1, (H4 z hz).2.2.1, rl_st_f (fun b => sh_u2_row (by decide) b) (H4 z hz).2.2.2⟩, fun t z ht hz => ?_, fun z hz t ht => ?_, ?_⟩
  · unfold rl_cd; simp [sh_u2]; simpa [rl_cd] using H3 z hz
  · unfold rl_m; simp [sh_u2]; exact H5 t z ht hz
  · unfold rl_o; simp [sh_u2]; simpa [rl_o] using H6 z hz t ht
  · obtain ⟨g1, g2, g3, g4, g5, g6, g7, g8, g9⟩ := H7
    exact ⟨by simp [sh_u2], by simp [sh_u2]; exact g2, g3, g4, g5, g6, by rw [rl_cnt_same (I := I) (by simp [sh_u2])]; simp [sh_u2]; exact g7, by simp [sh_u2]; exact g8, by simp [sh_u2]; exact g9⟩
theorem rl_time {y : UInt64} (H : rl_All K L I D R k c) (hk : k + 1 ≤ 512) (hy : rl_fb 1000 y) (hy0 : 0 ≤ fp_z y) : vf_n64 (FP.dadd (D 11 0) y) ∧ rl_All K (sh_u2 L 11 0 (FP.dadd (L 11 0) y)) I (sh_u2 D 11 0 (FP.dadd (D 11 0) y)) R (k + 1) c := by
  obtain ⟨H1, H2, H3, H4, H5, H6, H7⟩ := H
  obtain ⟨g1, g2, g3, g4, g5, g6, g7, g8, g9⟩ := H7
  have hb := g4.add hy (by omega)
  refine ⟨hb.vf, fun u hu => ?_, fun z hz => rl_y_same (by simp [rl_sS, sh_u2]) (H2 z hz), H3, H4, H5, H6, ⟨g1, g2, by simp [sh_u2, g3], ?_, ?_, hk, g7, g8, g9⟩⟩
  · have h := (H1 u hu).mono (Nat.le_succ k) (Nat.le_refl c)
    exact rl_t_same (by simp [rl_sT, sh_u2]) (fun _ => rfl) h
  · rw [sh_u2_eq]; exact hb.mono (by omega)
  · rw [sh_u2_eq]; exact fp_add0 g4 hy g5 hy0
theorem rl_kmono (H : rl_All K L I D R k c) (hk : k + 1 ≤ 512) : rl_All K L I D R (k + 1) c := by
  obtain ⟨H1, H2, H3, H4, H5, H6, H7⟩ := H
  obtain ⟨g1, g2, g3, g4, g5, g6, g7, g8, g9⟩ := H7
  exact ⟨fun u hu => (H1 u hu).mono (Nat.le_succ k) (Nat.le_refl c), H2, H3, H4, H5, H6, ⟨g1, g2, g3, g4.mono (by omega), g5, hk, g7, g8, g9⟩⟩
/-- the next that is late -/
theorem rl_l1 (H : rl_All K L I D R k c) : ∀ (z : List Nat) (b : Option Nat), (∀ i, i ∈ z → i < 6) → (∀ j, b = some j → j < 6 ∧ ¬ K 26 j = 0) → z.foldl (sp_l1 K L) b = z.foldl (sp_ml1 I D) b ∧ ∀ j, z.foldl (sp_l1 K L) b = some j → j < 6 ∧ ¬ K 26 j = 0 := by
  have en : ∀ j, j < 6 → (K 26 j = 0 ∧ (I 1 j = 0 ∨ Op.cmpValue (FP.dcmp (D 7 j) FP.dconst0) .l < 0)) ∨ (¬ K 26 j = 0 ∧ L 7 j = D 7 j ∧ ¬ I 1 j = 0 ∧ ¬ Op.cmpValue (FP.dcmp (D 7 j) FP.dconst0) .l < 0) := fun j hj => by
    rcases (H.1 j hj).2.2.2.2.2.2.2.2.2 with ⟨-, h1, h26, -⟩ | ⟨s, hs, h5, h1, h4, he, -⟩
    · exact .inl ⟨h26, .inl h1⟩
    · rcases he with ⟨h26, e, hn⟩ | ⟨h26, hn⟩
      · exact .inr ⟨by rw [h26]; decide, e, by rw [h1]; decide, hn⟩
      · exact .inl ⟨h26, .inr hn⟩
  have e11 := H.2.2.2.2.2.2.2.2.1
  intro z
  induction z with
  | nil => intro b _ hb; simp only [List.foldl_nil]; exact ⟨trivial, hb⟩
  | cons a z ih =>
    intro b hz hb
    rw [List.foldl_cons, List.foldl_cons]
    have ha := hz a (by simp)
    have hstep : sp_l1 K L b a = sp_ml1 I D b a ∧ ∀ j, sp_l1 K L b a = some j → j < 6 ∧ ¬ K 26 j = 0 := by
      unfold sp_l1 sp_ml1
      rcases en a ha with ⟨h26, h⟩ | ⟨h26, e7, h1, hn⟩
      · rw [if_pos h26]
        refine ⟨?_, hb⟩
        rcases h with h | h
        · rw [if_pos h]
        · by_cases h1 : I 1 a = 0
          · rw [if_pos h1]
          · rw [if_neg h1, if_pos h]
      · rw [if_neg h26, if_neg h1, if_neg hn, e7, e11]
        by_cases hg : 0 < Op.cmpValue (FP.dcmp (D 7 a) (D 11 0)) .g
        · rw [if_pos hg, if_pos hg]; exact ⟨rfl, hb⟩
        · rw [if_neg hg, if_neg hg]
          cases b with
          | none => exact ⟨rfl, fun j e => by cases e; exact ⟨ha, h26⟩⟩
          | some j =>
            obtain ⟨hj, hj26⟩ := hb j rfl
            have ej : L 7 j = D 7 j := by
              rcases en j hj with ⟨h, -⟩ | ⟨-, h, -⟩
              · exact absurd h hj26
              · exact h
            simp only [ej]
            refine ⟨trivial, fun i e => ?_⟩
            split at e
            · cases e; exact ⟨hj, hj26⟩
            · cases e; exact ⟨ha, h26⟩
    rw [← hstep.1]
    exact ih _ (fun i hi => hz i (by simp [hi])) hstep.2
theorem rl_late (H : rl_All K L I D R k c) : sp_late K L = sp_mlate I D ∧ ∀ j, sp_late K L = some j → j < 6 ∧ ¬ K 26 j = 0 := by
  unfold sp_late sp_mlate
  exact rl_l1 H _ none (fun i hi => by simp [List.mem_range'] at hi; omega) (fun j h => by cases h)
/-- one with an end waits -/
theorem rl_end (H : rl_All K L I D R k c) (ht : t < 6) (h : ¬ K 26 t = 0) : ∃ s, s < 8 ∧ t ∈ R s := by
  rcases (H.1 t ht).2.2.2.2.2.2.2.2.2 with ⟨-, -, h26, -⟩ | ⟨s, hs, h5, -⟩
  · exact absurd h26 h
  · exact ⟨s, hs, (H.2.2.2.2.1 t s ht hs).mpr h5⟩
def rl_n26 (K : sh_II) : Nat := ((List.range 6).filter (fun u => decide (¬ K 26 u = 0))).length
theorem rl_n26_lt {K' : sh_II} (h : ∀ u, K 26 u = 0 → K' 26 u = 0) (ht : t < 6) (h1 : ¬ K 26 t = 0) (h2 : K' 26 t = 0) : rl_n26 K' + 1 ≤ rl_n26 K := by
  unfold rl_n26
  refine co_lt _ _ _ (fun j _ hj => ?_) ⟨t, by simp [ht], by simp [h1], by simp [h2]⟩
  simp at hj
  simp
  exact fun e => hj (h j e)
theorem rl_n26_0 (h : rl_n26 K = 0) (ht : t < 6) : K 26 t = 0 := by
  unfold rl_n26 at h
  have := List.length_eq_zero_iff.mp h
  rw [List.filter_eq_nil_iff] at this
  have := this t (by simp [ht])
  simpa using this
theorem rl_n26_6 : rl_n26 K ≤ 6 := by
  unfold rl_n26
  exact Nat.le_trans (List.length_filter_le _ _) (by simp)
/-- a new sync -/
def mk_K (K : sh_II) (s : Nat) (kd p lk : Int32) : sh_II := fun r b => if r = 18 ∧ 6 * s ≤ b ∧ b < 6 * s + 6 then -1 else sh_u2 (sh_u2 (sh_u2 (sh_u2 K 12 s kd) 15 s p) 16 s lk) 29 0 ((K 29 0) + 1) r b
theorem mk_st {kd p lk : Int32} {z : Nat} (hs : s < 8) (hz : z < 8) (h : rl_st K z) : rl_st (mk_K K s kd p lk) z := fun i hi => by
  by_cases e : z = s
  · subst e
    exact .inl (by simp [mk_K, hi])
  · have : ¬ (6 * s ≤ 6 * z + i ∧ 6 * z + i < 6 * s + 6) := by omega
    have e2 : mk_K K s kd p lk 18 (6 * z + i) = K 18 (6 * z + i) := by simp [mk_K, sh_u2, this]
    rw [e2]
    exact h i hi
theorem mk_cnt {I' : sh_II} (hs : s < 8) (h1 : I 12 s = -1) (h2 : ¬ I' 12 s = -1) (h : ∀ z, z ≠ s → I' 12 z = I 12 z) : rl_cnt I' = rl_cnt I + 1 := by
  unfold rl_cnt
  have g : ∀ z : List Nat, z.Nodup → s ∈ z → (z.filter (fun s => decide (¬ I' 12 s = -1))).length = (z.filter (fun s => decide (¬ I 12 s = -1))).length + 1 := by
    intro z
    induction z with
    | nil => intro _ h; cases h
    | cons a z ih =>
      intro hn hm
      obtain ⟨ha, hn'⟩ := List.nodup_cons.mp hn
      rw [List.filter_cons, List.filter_cons]
      by_cases e : a = s
      · subst e
        have same : ∀ y : List Nat, ¬ a ∈ y → y.filter (fun s => decide (¬ I' 12 s = -1)) = y.filter (fun s => decide (¬ I 12 s = -1)) := fun y hy => by
          apply List.filter_congr
          intro x hx
          rw [h x (fun e => hy (e ▸ hx))]
        rw [same z ha]
        simp [h1, h2]
      · have := ih hn' ((List.mem_cons.mp hm).resolve_left (fun x => e x.symm))
        rw [h a e]
        split
        · rw [List.length_cons, List.length_cons, this]
        · exact this
  exact g _ List.nodup_range (by simp [hs])
theorem rl_absent (H : rl_All K L I D R k c) (hs : s < 8) (h : I 12 s = -1) : R s = [] ∧ I 13 s = -1 ∧ I 14 s = 0 ∧ I 15 s = 0 ∧ I 21 s = 0 ∧ D 20 s = FP.dconst0 ∧ ∀ t, t < 6 → I 17 (6 * s + t) = 0 := by
  obtain ⟨y1, y2, y3, y4, y5, y6, y7, y8, y9, y10, y11, y12, y13, y14⟩ := H.2.1 s hs
  rw [h] at y9 y10
  refine ⟨?_, ?_, ?_, ?_, (y13 h).1, (y13 h).2, fun t ht => ?_⟩
  · cases hr : R s with
    | nil => rfl
    | cons a r => exact absurd h (rl_kd_wait H hs (t := a) (by rw [hr]; simp))
  · rcases y9 with h | ⟨-, -, h⟩
    · exact h.1
    · exact absurd h (by decide)
  · rcases y9 with h | ⟨-, -, h⟩
    · exact h.2
    · exact absurd h (by decide)
  · obtain ⟨p, -, e, h⟩ := y10
    rcases h with h | h
    · rw [e, h]; rfl
    · exact absurd h (by decide)
  · obtain ⟨n, -, e, h'⟩ := (y14 t ht).2
    rw [h] at h'
    rcases h' with h' | h'
    · rw [e, h']; rfl
    · exact absurd h' (by decide)
theorem rl_make {kd p lk : Int32} (H : rl_All K L I D R k c) (hs : s < 8) (h : I 12 s = -1) (hkd : rl_kd kd) (hk1 : ¬ kd = -1) (hpm : rl_pm kd p) (hlk : kd = 6 → ∃ q, q < 8 ∧ lk = nI q ∧ (I 12 q = 0 ∨ I 12 q = 1)) : rl_All (mk_K K s kd p lk) L (sh_u2 (sh_u2 (sh_u2 I 12 s kd) 15 s p) 16 s lk) D R k c ∧ (mk_K K s kd p lk) 29 0 = nI (rl_cnt (sh_u2 (sh_u2 (sh_u2 I 12 s kd) 15 s p) 16 s lk)) := by
  obtain ⟨a1, a2, a3, a4, a5, a6, a7⟩ := rl_absent H hs h
  have H0 := H
  obtain ⟨H1, H2, H3, H4, H5, H6, H7⟩ := H
  obtain ⟨g1, g2, g3, g4, g5, g6, g7, g8, g9⟩ := H7
  have e12 : ∀ z, z ≠ s → sh_u2 (sh_u2 (sh_u2 I 12 s kd) 15 s p) 16 s lk 12 z = I 12 z := fun z hz => by simp [sh_u2, hz]
  have es : sh_u2 (sh_u2 (sh_u2 I 12 s kd) 15 s p) 16 s lk 12 s = kd := by simp [sh_u2]
  have hcnt := mk_cnt hs h (by rw [es]; exact hk1) e12
  have h29 : (mk_K K s kd p lk) 29 0 = nI (rl_cnt (sh_u2 (sh_u2 (sh_u2 I 12 s kd) 15 s p) 16 s lk)) := by
    rw [hcnt, ← nI_1, ← g7]; simp [mk_K, sh_u2]
  refine ⟨⟨fun u hu => ?_, fun z hz => ?_, fun z hz => ?_, fun z hz => ?_, fun u z hu hz => ?_, fun z hz u hu => ?_, ?_⟩, h29⟩
  · obtain ⟨t1, t2, t3, t4, t5, t6, t7, t8, t9, hp⟩ := H1 u hu
    refine ⟨by simpa [mk_K, sh_u2] using t1, by simpa [mk_K, sh_u2] using t2, by simpa [mk_K, sh_u2] using t3, by simpa [mk_K, sh_u2] using t4, t5, t6, by simpa [sh_u2] using t7, by simpa [sh_u2] using t8, t9, ?_⟩
    rcases hp with hp | ⟨z, hz, b1, b2, b3, b4, b5⟩
    · exact .inl (by simpa [mk_K, sh_u2] using hp)
    · have hzs : z ≠ s := fun e => by
        subst e
        exact absurd ((H5 u z hu hz).mpr b1) (by rw [a1]; simp)
      exact .inr ⟨z, hz, by simpa [sh_u2] using b1, by simpa [sh_u2] using b2, by simpa [sh_u2] using b3, by simpa [mk_K, sh_u2] using b4, by rw [e12 z hzs]; simpa [mk_K, sh_u2] using b5⟩
  · by_cases e : z = s
    · subst e
      obtain ⟨y1, y2, y3, y4, y5, y6, y7, y8, y9, y10, y11, y12, y13, y14⟩ := H2 z hz
      refine ⟨by simp [mk_K, sh_u2], by simpa [mk_K, sh_u2] using y2, by simpa [mk_K, sh_u2] using y3, by simp [mk_K, sh_u2], by simp [mk_K, sh_u2], by simpa [mk_K, sh_u2] using y6, y7, by rw [es]; exact hkd, ?_, ?_, by simpa [sh_u2] using y11, y12, fun e => absurd (es ▸ e) hk1, fun t ht => ⟨by simpa [mk_K, sh_u2] using (y14 t ht).1, ?_⟩⟩
      · exact .inl ⟨by simpa [sh_u2] using a2, by simpa [sh_u2] using a3⟩
      · rw [es]; simpa [sh_u2] using hpm
      · exact ⟨0, by omega, by rw [nI_0]; simpa [sh_u2] using a7 t ht, .inl rfl⟩
    · exact rl_y_same (by simp [rl_sS, mk_K, sh_u2, e]) (H2 z hz)
  · unfold rl_cd
    by_cases e : z = s
    · subst e
      rw [es]
      intro h6
      obtain ⟨q, hq, b1, b2⟩ := hlk h6
      have hqs : q ≠ z := fun e => by subst e; rw [h] at b2; exact absurd b2 (by decide)
      exact ⟨q, hq, by simpa [sh_u2] using b1, by rw [e12 q hqs]; exact b2⟩
    · rw [e12 z e]
      intro h6
      obtain ⟨q, hq, b1, b2⟩ := H3 z hz h6
      have hqs : q ≠ s := fun e => by subst e; rw [h] at b2; exact absurd b2 (by decide)
      exact ⟨q, hq, by simpa [sh_u2, e] using b1, by rw [e12 q hqs]; exact b2⟩
  · refine ⟨?_, cw_row_f (fun b => by simp [sh_u2]) (fun b => by simp [sh_u2]) (H4 z hz).2.1, (H4 z hz).2.2.1, mk_st hs hz (H4 z hz).2.2.2⟩
    obtain ⟨c1, c2, c3⟩ := (H4 z hz).1
    refine ⟨by simpa [mk_K, sh_u2] using c1, c2, fun i u hi => ?_⟩
    by_cases e : z = s
    · subst e; rw [a1] at hi; cases hi
    · have hil : i < 6 := by
        have := (List.getElem?_eq_some_iff.mp hi).1
        omega
      have : ¬ (6 * s ≤ 6 * z + i ∧ 6 * z + i < 6 * s + 6) := by omega
      obtain ⟨d1, d2⟩ := c3 i u hi
      exact ⟨by simp [mk_K, sh_u2, this]; exact d1, d2⟩
  · unfold rl_m; rw [show sh_u2 (sh_u2 (sh_u2 I 12 s kd) 15 s p) 16 s lk 5 u = I 5 u by simp [sh_u2]]; exact H5 u z hu hz
  · have e : z ≠ s := fun e => by subst e; rw [a1] at hu; cases hu
    have := H6 z hz u hu
    unfold rl_o
    rw [e12 z e, show sh_u2 (sh_u2 (sh_u2 I 12 s kd) 15 s p) 16 s lk 16 z = I 16 z by simp [sh_u2, e]]
    simpa [rl_o, sh_u2] using this
  · exact ⟨by simpa [mk_K, sh_u2] using g1, by simpa [mk_K, sh_u2] using g2, g3, g4, g5, g6, h29, by simpa [sh_u2] using g8, by simpa [mk_K, sh_u2] using g9⟩
end RLR
