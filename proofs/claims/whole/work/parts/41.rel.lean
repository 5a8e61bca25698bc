/-! THE RELATION between the class's numbers K, L and the reference's I, D; R s is the row of waiters of s; k bounds the time, c the counters -/
def rl_pos (c : Nat) (x : Int32) : Prop := ∃ n, 1 ≤ n ∧ n ≤ c ∧ x = nI n
def rl_nat (c : Nat) (x : Int32) : Prop := ∃ n, n ≤ c ∧ x = nI n
def rl_en (h : Int32) (x y : UInt64) : Prop := (h = 1 ∧ x = y ∧ ¬ rl_neg y) ∨ (h = 0 ∧ rl_neg y)
/-- how one waits: at a condition, at a gate, or to take a lock back -/
def rl_md (c : Nat) (kd k27 k9 i9 k10 i10 : Int32) : Prop := (kd = 6 ∧ k27 = 0 ∧ k9 = i9 ∧ rl_pos c i9) ∨ (¬ kd = 6 ∧ ¬ kd = -1 ∧ k27 = 0 ∧ i9 = 0 ∧ k9 = 1 ∧ k10 = 1) ∨ ((kd = 0 ∨ kd = 1) ∧ k27 = 1 ∧ k9 = i9 ∧ rl_pos c i9 ∧ k10 = i10)
def rl_p (K : sh_II) (L : sh_DD) (I : sh_II) (D : sh_DD) (c t : Nat) : Prop := (I 5 t = -1 ∧ I 1 t = 0 ∧ K 26 t = 0 ∧ K 27 t = 0) ∨ ∃ s, s < 8 ∧ I 5 t = nI s ∧ I 1 t = 1 ∧ I 4 t = 0 ∧ rl_en (K 26 t) (L 7 t) (D 7 t) ∧ rl_md c (I 12 s) (K 27 t) (K 9 t) (I 9 t) (K 10 t) (I 10 t)
def rl_t (K : sh_II) (L : sh_DD) (I : sh_II) (D : sh_DD) (k c t : Nat) : Prop := K 2 t = I 2 t ∧ K 4 t = I 4 t ∧ K 5 t = I 5 t ∧ K 6 t = I 6 t ∧ L 3 t = D 3 t ∧ L 8 t = D 8 t ∧ (I 2 t = 0 ∨ I 2 t = 1) ∧ (I 6 t = 0 ∨ I 6 t = 1) ∧ rl_fb (1000 * k) (D 8 t) ∧ rl_p K L I D c t
def rl_ow (c : Nat) (kd ow dp : Int32) : Prop := (ow = -1 ∧ dp = 0) ∨ ((∃ u, u < 6 ∧ ow = nI u) ∧ rl_pos c dp ∧ (kd = 0 ∨ kd = 1 ∨ kd = 5))
def rl_pm (kd pm : Int32) : Prop := ∃ p, p ≤ 100 ∧ pm = nI p ∧ (p = 0 ∨ kd = 2 ∨ kd = 3 ∨ kd = 4)
def rl_rd (c : Nat) (kd x : Int32) : Prop := ∃ n, n ≤ c ∧ x = nI n ∧ (n = 0 ∨ kd = 5)
def rl_kd (kd : Int32) : Prop := kd = -1 ∨ kd = 0 ∨ kd = 1 ∨ kd = 2 ∨ kd = 3 ∨ kd = 4 ∨ kd = 5 ∨ kd = 6
def rl_y (K : sh_II) (L : sh_DD) (I : sh_II) (D : sh_DD) (c s : Nat) : Prop := K 12 s = I 12 s ∧ K 13 s = I 13 s ∧ K 14 s = I 14 s ∧ K 15 s = I 15 s ∧ K 16 s = I 16 s ∧ K 21 s = I 21 s ∧ L 20 s = D 20 s ∧ rl_kd (I 12 s) ∧ rl_ow c (I 12 s) (I 13 s) (I 14 s) ∧ rl_pm (I 12 s) (I 15 s) ∧ rl_nat c (I 21 s) ∧ rl_fb (c * 1024000) (D 20 s) ∧ (I 12 s = -1 → I 21 s = 0 ∧ D 20 s = FP.dconst0) ∧ ∀ t, t < 6 → K 17 (6 * s + t) = I 17 (6 * s + t) ∧ rl_rd c (I 12 s) (I 17 (6 * s + t))
def rl_cd (I : sh_II) (s : Nat) : Prop := I 12 s = 6 → ∃ q, q < 8 ∧ I 16 s = nI q ∧ (I 12 q = 0 ∨ I 12 q = 1)
/-- what lies in the array of a row, behind the row too -/
def rl_st (K : sh_II) (s : Nat) : Prop := ∀ i, i < 6 → K 18 (6 * s + i) = -1 ∨ ∃ u, u < 6 ∧ K 18 (6 * s + i) = nI u
theorem rl_st_f {K K' : sh_II} {s : Nat} (h : ∀ b, K' 18 b = K 18 b) (hs : rl_st K s) : rl_st K' s := fun i hi => by rw [h]; exact hs i hi
def rl_w (K I : sh_II) (R : Nat → List Nat) (s : Nat) : Prop := cw_row K s (R s) ∧ cw_row I s (R s) ∧ (R s).Nodup ∧ rl_st K s
def rl_m (I : sh_II) (R : Nat → List Nat) (t s : Nat) : Prop := t ∈ R s ↔ I 5 t = nI s
def rl_o (I : sh_II) (t s : Nat) : Prop := (I 12 s = 1 → ¬ I 13 s = nI t) ∧ (I 12 s = 6 → ∀ q, q < 8 → I 16 s = nI q → ¬ I 13 q = nI t)
def rl_bit (x : Int32) (j : Nat) : Bool := decide (¬ ((x >>> ((nI j) &&& 31)) &&& 1) = 0)
def rl_cnt (I : sh_II) : Nat := ((List.range 8).filter (fun s => decide (¬ I 12 s = -1))).length
def rl_g (K : sh_II) (L : sh_DD) (I : sh_II) (D : sh_DD) (k : Nat) : Prop := K 24 0 = I 24 0 ∧ K 25 0 = I 25 0 ∧ L 11 0 = D 11 0 ∧ rl_fb (1000 * k) (D 11 0) ∧ 0 ≤ fp_z (D 11 0) ∧ k ≤ 512 ∧ K 29 0 = nI (rl_cnt I) ∧ (∀ x, x < 64 → I 22 x = 0 ∨ I 22 x = 1) ∧ ∀ i j, i < 8 → j < 8 → (rl_bit (K 28 i) j = true ↔ I 22 (8 * i + j) = 1)
def rl_All (K : sh_II) (L : sh_DD) (I : sh_II) (D : sh_DD) (R : Nat → List Nat) (k c : Nat) : Prop := (∀ t, t < 6 → rl_t K L I D k c t) ∧ (∀ s, s < 8 → rl_y K L I D c s) ∧ (∀ s, s < 8 → rl_cd I s) ∧ (∀ s, s < 8 → rl_w K I R s) ∧ (∀ t s, t < 6 → s < 8 → rl_m I R t s) ∧ (∀ s, s < 8 → ∀ t, t ∈ R s → rl_o I t s) ∧ rl_g K L I D k
section RLA
variable {K : sh_II} {L : sh_DD} {I : sh_II} {D : sh_DD} {R : Nat → List Nat} {k c : Nat}
theorem rl_pos.mono {c c' : Nat} {x : Int32} (h : rl_pos c x) (hc : c ≤ c') : rl_pos c' x := by
  obtain ⟨n, a, b, e⟩ := h
  exact ⟨n, a, by omega, e⟩
theorem rl_nat.mono {c c' : Nat} {x : Int32} (h : rl_nat c x) (hc : c ≤ c') : rl_nat c' x := by
  obtain ⟨n, b, e⟩ := h
  exact ⟨n, by omega, e⟩
theorem rl_md.mono {c c' : Nat} {a b d e f g : Int32} (h : rl_md c a b d e f g) (hc : c ≤ c') : rl_md c' a b d e f g := by
  rcases h with ⟨h1, h2, h3, h4⟩ | h | ⟨h1, h2, h3, h4, h5⟩
  · exact .inl ⟨h1, h2, h3, h4.mono hc⟩
  · exact .inr (.inl h)
  · exact .inr (.inr ⟨h1, h2, h3, h4.mono hc, h5⟩)
theorem rl_p.mono {c c' t : Nat} (h : rl_p K L I D c t) (hc : c ≤ c') : rl_p K L I D c' t := by
  rcases h with h | ⟨s, a, b, d, e, f, g⟩
  · exact .inl h
  · exact .inr ⟨s, a, b, d, e, f, g.mono hc⟩
theorem rl_t.mono {k k' c c' t : Nat} (h : rl_t K L I D k c t) (hk : k ≤ k') (hc : c ≤ c') : rl_t K L I D k' c' t := by
  obtain ⟨a1, a2, a3, a4, a5, a6, a7, a8, a9, a10⟩ := h
  exact ⟨a1, a2, a3, a4, a5, a6, a7, a8, a9.mono (Nat.mul_le_mul_left _ hk), a10.mono hc⟩
theorem rl_ow.mono {c c' : Nat} {a b d : Int32} (h : rl_ow c a b d) (hc : c ≤ c') : rl_ow c' a b d := by
  rcases h with h | ⟨a, b, d⟩
  · exact .inl h
  · exact .inr ⟨a, b.mono hc, d⟩
theorem rl_rd.mono {c c' : Nat} {a b : Int32} (h : rl_rd c a b) (hc : c ≤ c') : rl_rd c' a b := by
  obtain ⟨n, b, e⟩ := h
  exact ⟨n, by omega, e⟩
theorem rl_y.mono {c c' s : Nat} (h : rl_y K L I D c s) (hc : c ≤ c') : rl_y K L I D c' s := by
  obtain ⟨a1, a2, a3, a4, a5, a6, a7, a8, a9, a10, a11, a12, a13, a14⟩ := h
  exact ⟨a1, a2, a3, a4, a5, a6, a7, a8, a9.mono hc, a10, a11.mono hc, a12.mono (Nat.mul_le_mul_right _ hc), a13, fun t ht => ⟨(a14 t ht).1, (a14 t ht).2.mono hc⟩⟩
theorem rl_All.mono {c' : Nat} (H : rl_All K L I D R k c) (hc : c ≤ c') : rl_All K L I D R k c' :=
  ⟨fun t ht => (H.1 t ht).mono (Nat.le_refl _) hc, fun s hs => (H.2.1 s hs).mono hc, H.2.2⟩
/-- what is told of the thread u has not changed -/
def rl_sT (K : sh_II) (L : sh_DD) (I : sh_II) (D : sh_DD) (K' : sh_II) (L' : sh_DD) (I' : sh_II) (D' : sh_DD) (u : Nat) : Prop :=
  (K' 2 u = K 2 u ∧ K' 4 u = K 4 u ∧ K' 5 u = K 5 u ∧ K' 6 u = K 6 u ∧ K' 9 u = K 9 u ∧ K' 10 u = K 10 u ∧ K' 26 u = K 26 u ∧ K' 27 u = K 27 u) ∧ (L' 3 u = L 3 u ∧ L' 7 u = L 7 u ∧ L' 8 u = L 8 u) ∧
  (I' 1 u = I 1 u ∧ I' 2 u = I 2 u ∧ I' 4 u = I 4 u ∧ I' 5 u = I 5 u ∧ I' 6 u = I 6 u ∧ I' 9 u = I 9 u ∧ I' 10 u = I 10 u) ∧ (D' 3 u = D 3 u ∧ D' 7 u = D 7 u ∧ D' 8 u = D 8 u)
def rl_sS (K : sh_II) (L : sh_DD) (I : sh_II) (D : sh_DD) (K' : sh_II) (L' : sh_DD) (I' : sh_II) (D' : sh_DD) (z : Nat) : Prop :=
  (K' 12 z = K 12 z ∧ K' 13 z = K 13 z ∧ K' 14 z = K 14 z ∧ K' 15 z = K 15 z ∧ K' 16 z = K 16 z ∧ K' 21 z = K 21 z) ∧ (L' 20 z = L 20 z) ∧ (I' 12 z = I 12 z ∧ I' 13 z = I 13 z ∧ I' 14 z = I 14 z ∧ I' 15 z = I 15 z ∧ I' 16 z = I 16 z ∧ I' 21 z = I 21 z) ∧ (D' 20 z = D 20 z) ∧ ∀ u, u < 6 → K' 17 (6 * z + u) = K 17 (6 * z + u) ∧ I' 17 (6 * z + u) = I 17 (6 * z + u)
def rl_sG (K : sh_II) (L : sh_DD) (I : sh_II) (D : sh_DD) (K' : sh_II) (L' : sh_DD) (I' : sh_II) (D' : sh_DD) : Prop :=
  K' 24 0 = K 24 0 ∧ K' 25 0 = K 25 0 ∧ L' 11 0 = L 11 0 ∧ K' 29 0 = K 29 0 ∧ (∀ i, K' 28 i = K 28 i) ∧ I' 24 0 = I 24 0 ∧ I' 25 0 = I 25 0 ∧ D' 11 0 = D 11 0 ∧ (∀ i, I' 22 i = I 22 i) ∧ ∀ i, I' 12 i = I 12 i
theorem rl_t_same {K' : sh_II} {L' : sh_DD} {I' : sh_II} {D' : sh_DD} {u : Nat} (h : rl_sT K L I D K' L' I' D' u) (h12 : ∀ i, I' 12 i = I 12 i) (H : rl_t K L I D k c u) : rl_t K' L' I' D' k c u := by
  obtain ⟨⟨a1, a2, a3, a4, a5, a6, a7, a8⟩, ⟨b1, b2, b3⟩, ⟨c1, c2, c3, c4, c5, c6, c7⟩, d1, d2, d3⟩ := h
  unfold rl_t rl_p at *
  simp only [a1, a2, a3, a4, a5, a6, a7, a8, b1, b2, b3, c1, c2, c3, c4, c5, c6, c7, d1, d2, d3, h12]
  exact H
theorem rl_y_same {K' : sh_II} {L' : sh_DD} {I' : sh_II} {D' : sh_DD} {z : Nat} (h : rl_sS K L I D K' L' I' D' z) (H : rl_y K L I D c z) : rl_y K' L' I' D' c z := by
  obtain ⟨⟨a1, a2, a3, a4, a5, a6⟩, b1, ⟨c1, c2, c3, c4, c5, c6⟩, d1, e⟩ := h
  obtain ⟨f1, f2, f3, f4, f5, f6, f7, f8, f9, f10, f11, f12, f13, f14⟩ := H
  unfold rl_y
  rw [a1, a2, a3, a4, a5, a6, b1, c1, c2, c3, c4, c5, c6, d1]
  exact ⟨f1, f2, f3, f4, f5, f6, f7, f8, f9, f10, f11, f12, f13, fun t ht => by rw [(e t ht).1, (e t ht).2]; exact f14 t ht⟩
theorem rl_cnt_same {I I' : sh_II} (h : ∀ i, I' 12 i = I 12 i) : rl_cnt I' = rl_cnt I := by
  unfold rl_cnt; simp only [h]
theorem rl_g_same {K' : sh_II} {L' : sh_DD} {I' : sh_II} {D' : sh_DD} (h : rl_sG K L I D K' L' I' D') (H : rl_g K L I D k) : rl_g K' L' I' D' k := by
  obtain ⟨a1, a2, a3, a4, a5, a6, a7, a8, a9, a10⟩ := h
  unfold rl_g
  rw [a1, a2, a3, a4, a6, a7, a8, rl_cnt_same a10]
  simp only [a5, a9]
  exact H
/-- one thread t and the syncs s and q change -/
theorem rl_upd {K' : sh_II} {L' : sh_DD} {I' : sh_II} {D' : sh_DD} {R' : Nat → List Nat} {t s q c' : Nat} (H : rl_All K L I D R k c) (hcc : c ≤ c') (hg : rl_sG K L I D K' L' I' D')
    (hT : ∀ u, u < 6 → u ≠ t → rl_sT K L I D K' L' I' D' u) (hS : ∀ z, z < 8 → z ≠ s → z ≠ q → rl_sS K L I D K' L' I' D' z) (h16 : ∀ z, I' 16 z = I 16 z)
    (ht : rl_t K' L' I' D' k c' t) (hs : s < 8 → rl_y K' L' I' D' c' s) (hq : q < 8 → rl_y K' L' I' D' c' q) (hw : ∀ z, z < 8 → rl_w K' I' R' z)
    (hm : ∀ z u, z < 8 → u < 6 → u ≠ t → (u ∈ R' z ↔ u ∈ R z)) (hmt : ∀ z, z < 8 → (t ∈ R' z ↔ I' 5 t = nI z)) (ho : ∀ z, z < 8 → I' 13 z = I 13 z ∨ I' 13 z = -1 ∨ I' 13 z = nI t) (htt : t < 6)
    (hot : ∀ z, z < 8 → t ∈ R' z → rl_o I' t z) : rl_All K' L' I' D' R' k c' := by
  have h12 := hg.2.2.2.2.2.2.2.2.2
  obtain ⟨H1, H2, H3, H4, H5, H6, H7⟩ := H
  refine ⟨fun u hu => ?_, fun z hz => ?_, fun z hz => ?_, hw, fun u z hu hz => ?_, fun z hz u hu => ?_, rl_g_same hg H7⟩
  · by_cases e : u = t
    · subst e; exact ht
    · exact rl_t_same (hT u hu e) h12 ((H1 u hu).mono (Nat.le_refl _) hcc)
  · by_cases e : z = s
    · subst e; exact hs hz
    · by_cases e2 : z = q
      · subst e2; exact hq hz
      · exact rl_y_same (hS z hz e e2) ((H2 z hz).mono hcc)
  · unfold rl_cd
    simp only [h12, h16]
    exact H3 z hz
  · by_cases e : u = t
    · subst e; exact hmt z hz
    · unfold rl_m
      rw [hm z u hz hu e, (hT u hu e).2.2.1.2.2.2.1]
      exact H5 u z hu hz
  · by_cases e : u = t
    · subst e; exact hot z hz hu
    · have hu6 : u < 6 := cw_row_lt (hw z hz).1 hu
      have ho' := H6 z hz u ((hm z u hz hu6 e).mp hu)
      have key : ∀ y, y < 8 → ¬ I 13 y = nI u → ¬ I' 13 y = nI u := fun y hy hn => by
        rcases ho y hy with a | a | a
        · rw [a]; exact hn
        · rw [a]; exact nI_m1 (by omega)
        · rw [a]; exact nI_neq htt hu6 (fun x => e x.symm)
      refine ⟨fun h1 => key z hz (ho'.1 (by rw [← h12]; exact h1)), fun h1 y hy h2 => key y hy (ho'.2 (by rw [← h12]; exact h1) y hy (by rw [← h16]; exact h2))⟩
end RLA
