/-! THE SIMULATION: each public call answers alike on both sides -/
def sm_c (j : Nat) : Nat := if j = 5 then 3 else j
def sm_s (n : Nat → Bool) (v : Option Value) : Prop := (n 101 = true ∧ v = none) ∨ (n 102 = true ∧ ∃ y, v = some (.double y)) ∨ (n 101 = false ∧ n 102 = false ∧ ∃ x, v = some (.int x))
def sm_a (n : Nat → Bool) (r : Option Value ⊕ Nat) (v : Option Value) (x : Int32) : Prop := (r = .inl v ∧ x = 0 ∧ sm_s n v) ∨ ∃ j, r = .inr j ∧ n j = true ∧ j < 100 ∧ x = nI (sm_c j) ∧ sm_s n v
/-- both sides of one call -/
def sm_ok (A : Nat → Nat) (mq : Nat) (B : Nat → Nat) (dc : sh_Md) (ac : List Value) (dm : sh_Md) (am : List Value) (K : sh_II) (L : sh_DD) (I : sh_II) (D : sh_DD) (k c : Nat) (n : Nat → Bool) : Prop :=
  ∃ r K' L' v I' D' R', sh_cM A dc ac K L r K' L' ∧ sh_mM mq B dm am I D v I' D' ∧ rl_All K' L' I' D' R' k c ∧ sm_a n r v (I' 0 0)
section SMA
variable {A : Nat → Nat} {mq : Nat} {B : Nat → Nat} {dc dm : sh_Md} {ac am : List Value} {K K' : sh_II} {L L' : sh_DD} {I I' : sh_II} {D D' : sh_DD} {R R' : Nat → List Nat} {k c : Nat} {n : Nat → Bool} {v : Option Value}
theorem sm_t (j : Nat) (h1 : sh_cM A dc ac K L (.inr j) K' L') (h2 : sh_mM mq B dm am I D v I' D') (h3 : rl_All K' L' I' D' R' k c) (hn : n j = true) (hx : I' 0 0 = nI (sm_c j)) (hj : j < 100 := by decide) (hs : sm_s n v := by first | exact .inr (.inr ⟨rfl, rfl, _, rfl⟩) | exact .inr (.inl ⟨rfl, _, rfl⟩) | exact .inl ⟨rfl, rfl⟩) : sm_ok A mq B dc ac dm am K L I D k c n := ⟨_, _, _, _, _, _, _, h1, h2, h3, .inr ⟨j, rfl, hn, hj, hx, hs⟩⟩
theorem sm_r {w : Option Value} (h1 : sh_cM A dc ac K L (.inl w) K' L') (h2 : sh_mM mq B dm am I D v I' D') (h3 : rl_All K' L' I' D' R' k c) (hv : w = v) (hx : I' 0 0 = 0) (hs : sm_s n w := by first | exact .inr (.inr ⟨rfl, rfl, _, rfl⟩) | exact .inr (.inl ⟨rfl, _, rfl⟩) | exact .inl ⟨rfl, rfl⟩) : sm_ok A mq B dc ac dm am K L I D k c n := ⟨_, _, _, _, _, _, _, h1, h2, h3, .inl ⟨by rw [hv], hx, hv ▸ hs⟩⟩
theorem rl_00 {x : Int32} (H : rl_All K L I D R k c) : rl_All K L (sh_u2 I 0 0 x) D R k c := rl_free H (fun r b h _ => sh_u2_row h b)
theorem sm_t1 (j : Nat) {x : Int32} (H : rl_All K L I D R k c) (h1 : sh_cM A dc ac K L (.inr j) K L) (h2 : sh_mM mq B dm am I D v (sh_u2 I 0 0 x) D) (hn : n j = true) (hx : x = nI (sm_c j)) (hj : j < 100 := by decide) (hs : sm_s n v := by first | exact .inr (.inr ⟨rfl, rfl, _, rfl⟩) | exact .inr (.inl ⟨rfl, _, rfl⟩) | exact .inl ⟨rfl, rfl⟩) : sm_ok A mq B dc ac dm am K L I D k c n := sm_t j h1 h2 (rl_00 H) hn (by rw [sh_u2_eq]; exact hx) hj hs
theorem sm_t2 (j : Nat) {x y : Int32} (H : rl_All K L I D R k c) (h1 : sh_cM A dc ac K L (.inr j) K L) (h2 : sh_mM mq B dm am I D v (sh_u2 (sh_u2 I 0 0 y) 0 0 x) D) (hn : n j = true) (hx : x = nI (sm_c j)) (hj : j < 100 := by decide) (hs : sm_s n v := by first | exact .inr (.inr ⟨rfl, rfl, _, rfl⟩) | exact .inr (.inl ⟨rfl, _, rfl⟩) | exact .inl ⟨rfl, rfl⟩) : sm_ok A mq B dc ac dm am K L I D k c n := sm_t j h1 h2 (rl_00 (rl_00 H)) hn (by rw [sh_u2_eq]; exact hx) hj hs
theorem sm_r1 {w : Option Value} (H : rl_All K L I D R k c) (h1 : sh_cM A dc ac K L (.inl w) K L) (h2 : sh_mM mq B dm am I D v (sh_u2 I 0 0 0) D) (hv : w = v) (hs : sm_s n w := by first | exact .inr (.inr ⟨rfl, rfl, _, rfl⟩) | exact .inr (.inl ⟨rfl, _, rfl⟩) | exact .inl ⟨rfl, rfl⟩) : sm_ok A mq B dc ac dm am K L I D k c n := sm_r h1 h2 (rl_00 H) hv (sh_u2_eq _ _ _ _) hs
theorem sm_lt {x : Int32} {a b : Int32} (h : b.toInt = a.toInt + 1) : x < b ↔ x ≤ a := by
  rw [Int32.lt_iff_toInt_lt, Int32.le_iff_toInt_le]; omega
theorem sm_rng {a b : Int32} {m : Nat} (ha : a.toInt = (m : Int)) (hb : b.toInt = a.toInt + 1) (x : Int32) : x < 0 ∨ (¬ x < 0 ∧ ¬ x ≤ a ∧ ¬ x < b) ∨ ∃ t, t < m + 1 ∧ x = nI t ∧ ¬ x < 0 ∧ x ≤ a ∧ x < b := by
  by_cases h : x < 0
  · exact .inl h
  by_cases h2 : x ≤ a
  · obtain ⟨j, hj, e⟩ := nI_of2 ha h h2
    exact .inr (.inr ⟨j, by omega, e, h, h2, (sm_lt hb).mpr h2⟩)
  · exact .inr (.inl ⟨h, h2, fun q => h2 ((sm_lt hb).mp q)⟩)
def sm_0 (j : Nat) : Bool := decide (j = 1 ∨ j = 101)
def sm_6 (j : Nat) : Bool := decide (j = 102)
def sm_1 (j : Nat) : Bool := decide (j = 1)
def sm_2 (j : Nat) : Bool := decide (j = 1 ∨ j = 2)
def sm_4 (j : Nat) : Bool := decide (j = 1 ∨ j = 2 ∨ j = 3 ∨ j = 4)
def sm_5 (j : Nat) : Bool := decide (j = 1 ∨ j = 2 ∨ j = 5 ∨ j = 102)
theorem sm_rank {x : Int32} {y : UInt64} (H : rl_All K L I D R k c) : sm_ok A mq B md_Hall_rank [.ref (A 0), .int x, .double y] md_Mod_rank [.ref mq, .int x, .double y] K L I D k c sm_0 := by
  rcases sm_rng (a := 5) (b := 6) (m := 5) (by decide) (by decide) x with h | ⟨h1, h2, h3⟩ | ⟨t, ht, rfl, -⟩
  · exact sm_t1 1 H (ct_Hall_rank_x_1 h) (mx_Mod_rank_x_1 h) (by decide) (by decide)
  · exact sm_t1 1 H (ct_Hall_rank_x_2 h1 h2) (mx_Mod_rank_x_4 h1 h3) (by decide) (by decide)
  · by_cases h1 : (Op.cmpValue (FP.dcmp y (FP.i2d (-1000))) .l) < 0
    · exact sm_t1 1 H (ct_Hall_rank_1 ht h1) (mx_Mod_rank_1 ht (by rw [← fp_im1000]; exact h1)) (by decide) (by decide)
    · by_cases h2 : (Op.cmpValue (FP.dcmp y (FP.i2d 1000)) .g) ≤ 0
      · exact sm_r (ct_Hall_rank_2 ht h1 h2) (mx_Mod_rank_2 ht (by rw [← fp_im1000]; exact h1) (by rw [← fp_i1000]; exact h2)) (rl_00 (rl_rank H)) rfl (sh_u2_eq _ _ _ _)
      · exact sm_t1 1 H (ct_Hall_rank_3 ht h1 h2) (mx_Mod_rank_3 ht (by rw [← fp_im1000]; exact h1) (by rw [← fp_i1000]; exact h2)) (by decide) (by decide)
theorem sm_policy {x : Int32} (H : rl_All K L I D R k c) : sm_ok A mq B md_Hall_policy [.ref (A 0), .int x] md_Mod_policy [.ref mq, .int x] K L I D k c sm_1 := by
  rcases sm_rng (a := 2) (b := 3) (m := 2) (by decide) (by decide) x with h | ⟨h1, h2, h3⟩ | ⟨t, ht, -, h1, h2, h3⟩
  · exact sm_t2 1 H (ct_Hall_policy_1 h) (mx_Mod_policy_1 h) (by decide) (by decide)
  · exact sm_t2 1 H (ct_Hall_policy_3 h1 h2) (mx_Mod_policy_3 h1 h3) (by decide) (by decide)
  · exact sm_r (ct_Hall_policy_2 h1 h2) (mx_Mod_policy_2 h1 h3) (rl_policy (rl_00 H)) (by rw [H.2.2.2.2.2.2.2.1]) (by rw [sh_u2_row (by decide), sh_u2_eq])
theorem sm_time (H : rl_All K L I D R k c) : sm_ok A mq B md_Hall_time [.ref (A 0)] md_Mod_time [.ref mq] K L I D k c sm_6 := sm_r1 H ct_Hall_time_1 mx_Mod_time_1 (by rw [H.2.2.2.2.2.2.2.2.1])
theorem rl_kdcl {x : Int32} (h : rl_kd x) : (x = -1 ∧ cw_cl x = 0 ∧ ¬ 0 ≤ x) ∨ (cw_cl x = 4 ∧ 0 ≤ x ∧ (x = 0 ∨ x = 1)) ∨ (cw_cl x = 5 ∧ 0 ≤ x ∧ (x = 2 ∨ x = 3)) ∨ (cw_cl x = 6 ∧ 0 ≤ x ∧ x = 4) ∨ (cw_cl x = 7 ∧ 0 ≤ x ∧ x = 5) ∨ (cw_cl x = 8 ∧ 0 ≤ x ∧ x = 6) := by
  rcases h with h | h | h | h | h | h | h | h <;> subst h <;> decide
theorem sm_waited {x : Int32} (H : rl_All K L I D R k c) (hc : c < 2 ^ 30) : sm_ok A mq B md_Hall_waited [.ref (A 0), .int x] md_Mod_waited [.ref mq, .int x] K L I D k c sm_5 := by
  rcases sm_rng (a := 7) (b := 8) (m := 7) (by decide) (by decide) x with h | ⟨h1, h2, h3⟩ | ⟨s, hs, rfl, -⟩
  · exact sm_t2 1 H (ct_Hall_waited_x_1 h) (mx_Mod_waited_x_1 h) (by decide) (by decide)
  · exact sm_t2 1 H (ct_Hall_waited_x_2 h1 h2) (mx_Mod_waited_x_2 h1 h3) (by decide) (by decide)
  · obtain ⟨y1, y2, y3, y4, y5, y6, y7, y8, y9, y10, ⟨m, hm, e21⟩, y12, y13, y14⟩ := H.2.1 s hs
    rw [← y1] at y8
    by_cases hm0 : m = 0
    · have i0 : I 21 s = 0 := by rw [e21, hm0]; rfl
      have k0 : ¬ 0 < K 21 s := by rw [y6, i0]; decide
      rcases rl_kdcl y8 with ⟨-, hk, h0⟩ | ⟨hk, h0, -⟩ | ⟨hk, h0, -⟩ | ⟨hk, h0, -⟩ | ⟨hk, h0, -⟩ | ⟨hk, h0, -⟩
      · exact sm_t2 2 H (ct_Hall_waited_none_1 hs hk) (mx_Mod_waited_3 hs (by rw [← y1]; exact h0)) (by decide) (by decide)
      · exact sm_t2 5 H (ct_Hall_waited_Lock_2 hs hk k0) (mx_Mod_waited_1 hs (by rw [← y1]; exact h0) i0) (by decide) (by decide)
      · exact sm_t2 5 H (ct_Hall_waited_Semaphore_2 hs hk k0) (mx_Mod_waited_1 hs (by rw [← y1]; exact h0) i0) (by decide) (by decide)
      · exact sm_t2 5 H (ct_Hall_waited_Latch_2 hs hk k0) (mx_Mod_waited_1 hs (by rw [← y1]; exact h0) i0) (by decide) (by decide)
      · exact sm_t2 5 H (ct_Hall_waited_Shared_2 hs hk k0) (mx_Mod_waited_1 hs (by rw [← y1]; exact h0) i0) (by decide) (by decide)
      · exact sm_t2 5 H (ct_Hall_waited_Condition_2 hs hk k0) (mx_Mod_waited_1 hs (by rw [← y1]; exact h0) i0) (by decide) (by decide)
    · have i0 : ¬ I 21 s = 0 := by rw [e21]; exact nI_ne0 (by omega) (by omega)
      have k0 : 0 < K 21 s := by rw [y6, e21]; exact nI_lt (a := 0) (by omega) (by omega)
      have vd := fp_div y12 i0
      have vl : vf_n64 (FP.ddiv (L 20 s) (FP.i2d (K 21 s))) := by rw [y6, y7]; exact vd
      have ev : some (Value.double (FP.ddiv (L 20 s) (FP.i2d (K 21 s)))) = some (Value.double (FP.ddiv (D 20 s) (FP.i2d (I 21 s)))) := by rw [y6, y7]
      rcases rl_kdcl y8 with ⟨-, hk, h0⟩ | ⟨hk, h0, -⟩ | ⟨hk, h0, -⟩ | ⟨hk, h0, -⟩ | ⟨hk, h0, -⟩ | ⟨hk, h0, -⟩
      · exact sm_t2 2 H (ct_Hall_waited_none_1 hs hk) (mx_Mod_waited_3 hs (by rw [← y1]; exact h0)) (by decide) (by decide)
      · exact sm_r1 H (ct_Hall_waited_Lock_1 hs hk k0 vl) (mx_Mod_waited_2 hs (by rw [← y1]; exact h0) i0 vd) ev
      · exact sm_r1 H (ct_Hall_waited_Semaphore_1 hs hk k0 vl) (mx_Mod_waited_2 hs (by rw [← y1]; exact h0) i0 vd) ev
      · exact sm_r1 H (ct_Hall_waited_Latch_1 hs hk k0 vl) (mx_Mod_waited_2 hs (by rw [← y1]; exact h0) i0 vd) ev
      · exact sm_r1 H (ct_Hall_waited_Shared_1 hs hk k0 vl) (mx_Mod_waited_2 hs (by rw [← y1]; exact h0) i0 vd) ev
      · exact sm_r1 H (ct_Hall_waited_Condition_1 hs hk k0 vl) (mx_Mod_waited_2 hs (by rw [← y1]; exact h0) i0 vd) ev
end SMA
section SMB
variable {A : Nat → Nat} {mq : Nat} {B : Nat → Nat} {K K' : sh_II} {L L' : sh_DD} {I I' : sh_II} {D D' : sh_DD} {R R' : Nat → List Nat} {k c : Nat}
theorem rl_place (H : rl_All K L I D R k c) {t : Nat} (ht : t < 6) : (K 5 t = -1 ∧ I 5 t = -1 ∧ I 1 t = 0) ∨ ∃ s, s < 8 ∧ K 5 t = nI s ∧ I 5 t = nI s ∧ ¬ I 1 t = 0 ∧ t ∈ R s := by
  have e5 := (H.1 t ht).2.2.1
  rcases (H.1 t ht).2.2.2.2.2.2.2.2.2 with ⟨h5, h1, -⟩ | ⟨s, hs, h5, h1, -⟩
  · exact .inl ⟨e5.trans h5, h5, h1⟩
  · exact .inr ⟨s, hs, e5.trans h5, h5, by rw [h1]; decide, (H.2.2.2.2.1 t s ht hs).mpr h5⟩
theorem sm_thread {x o : Int32} (H : rl_All K L I D R k c) : sm_ok A mq B md_Hall_thread [.ref (A 0), .int x, .int o] md_Mod_thread [.ref mq, .int x, .int o] K L I D k c sm_1 := by
  rcases sm_rng (a := 5) (b := 6) (m := 5) (by decide) (by decide) x with h | ⟨h1, h2, h3⟩ | ⟨t, ht, rfl, -⟩
  · exact sm_t2 1 H (ct_Hall_thread_x_1 h) (mx_Mod_thread_x_1 h) (by decide) (by decide)
  · exact sm_t2 1 H (ct_Hall_thread_x_2 h1 h2) (mx_Mod_thread_x_4 h1 h3) (by decide) (by decide)
  obtain ⟨t1, t2, t3, t4, t5, t6, t7, t8, t9, hp⟩ := H.1 t ht
  rcases sm_rng (a := 10) (b := 11) (m := 10) (by decide) (by decide) o with h | ⟨h1, h2, h3⟩ | ⟨n, hn, e, h1, h2, h3⟩
  · exact sm_t2 1 H (ct_Hall_thread_b_1 ht h) (mx_Mod_thread_b_1 ht h) (by decide) (by decide)
  · exact sm_t2 1 H (ct_Hall_thread_b_7 ht h1 h2) (mx_Mod_thread_b_7 ht h1 h3) (by decide) (by decide)
  by_cases n0 : n = 0
  · have o0 : o = 0 := by rw [e, n0]; rfl
    rcases rl_place H ht with ⟨p5, -, i1⟩ | ⟨s, hs, p5, -, i1, -⟩
    · exact sm_r1 H (ct_Hall_thread_b_2 ht h1 h2 o0 p5) (mx_Mod_thread_b_2 ht h1 h3 o0 i1) rfl
    · exact sm_r1 H (ct_Hall_thread_b_3 ht h1 h2 o0 hs p5) (mx_Mod_thread_b_3 ht h1 h3 o0 i1) rfl
  have o0 : ¬ o = 0 := by rw [e]; exact nI_ne0 (by omega) (by omega)
  by_cases n1 : n = 1
  · have o1 : o = 1 := by rw [e, n1]; rfl
    exact sm_r1 H (ct_Hall_thread_b_4 ht h1 h2 o1) (mx_Mod_thread_b_4 ht h1 h3 o0 o1) (by rw [t2])
  have o1 : ¬ o = 1 := by rw [e]; exact fun q => n1 ((nI_eq (b := 1) (by omega) (by omega)).mp q)
  by_cases n2 : n = 2
  · have o2 : o = 2 := by rw [e, n2]; rfl
    by_cases hf : I 2 t = 0
    · exact sm_r1 H (ct_Hall_thread_b_5 ht h1 h2 o2 (by rw [t1]; exact hf)) (mx_Mod_thread_b_5 ht h1 h3 o0 o1 o2 hf) rfl
    · exact sm_r1 H (ct_Hall_thread_b_6 ht h1 h2 o2 (by rw [t1]; exact hf)) (mx_Mod_thread_b_6 ht h1 h3 o0 o1 o2 hf) rfl
  obtain ⟨s, rfl⟩ : ∃ s, n = s + 3 := ⟨n - 3, by omega⟩
  have hs : s < 8 := by omega
  subst e
  obtain ⟨y1, y2, y3, y4, y5, y6, y7, y8, y9, y10, y11, y12, y13, y14⟩ := H.2.1 s hs
  have y8' := y8
  rw [← y1] at y8
  obtain ⟨e17, m, hm, em, hm5⟩ := y14 t ht
  have other : (¬ I 12 s = 0 ∧ ¬ I 12 s = 1 ∧ ¬ I 12 s = 5) → ¬ I 13 s = nI t ∧ I 17 (6 * s + t) = 0 := fun ⟨a, b, d⟩ => by
    refine ⟨fun q => ?_, ?_⟩
    · rcases y9 with ⟨h, -⟩ | ⟨-, -, h⟩
      · rw [q] at h; exact nI_m1' (by omega) h
      · rcases h with h | h | h
        · exact a h
        · exact b h
        · exact d h
    · rcases hm5 with h | h
      · rw [em, h]; rfl
      · exact absurd h d
  have no5 : ¬ I 12 s = 5 → I 17 (6 * s + t) = 0 := fun d => by
    rcases hm5 with h | h
    · rw [em, h]; rfl
    · exact absurd h d
  have own : (K 13 s = -1 ∧ ¬ I 13 s = nI t) ∨ (∃ u, u < 6 ∧ K 13 s = nI u ∧ u = t ∧ I 13 s = nI t) ∨ ∃ u, u < 6 ∧ K 13 s = nI u ∧ ¬ u = t ∧ ¬ I 13 s = nI t := by
    rcases y9 with ⟨h, -⟩ | ⟨⟨u, hu, h⟩, -, -⟩
    · exact .inl ⟨y2.trans h, fun q => by rw [q] at h; exact nI_m1' (by omega) h⟩
    · by_cases e : u = t
      · exact .inr (.inl ⟨u, hu, y2.trans h, e, e ▸ h⟩)
      · exact .inr (.inr ⟨u, hu, y2.trans h, e, fun q => nI_neq hu ht e (h.symm.trans q)⟩)
  rcases rl_kdcl y8 with ⟨e, hk, h0⟩ | ⟨hk, h0, e⟩ | ⟨hk, h0, e⟩ | ⟨hk, h0, e⟩ | ⟨hk, h0, e⟩ | ⟨hk, h0, e⟩ <;> rw [y1] at e
  · obtain ⟨a, b⟩ := other (by rw [e]; decide)
    exact sm_r1 H (ct_Hall_thread_none_1 ht hs hk) (mx_Mod_thread_s_2 ht hs a) (by rw [b]; rfl)
  · have b := no5 (by rcases e with e | e <;> rw [e] <;> decide)
    rcases own with ⟨o1, o2⟩ | ⟨u, hu, o1, o2, o3⟩ | ⟨u, hu, o1, o2, o3⟩
    · exact sm_r1 H (ct_Hall_thread_Lock_1 ht hs hk o1) (mx_Mod_thread_s_2 ht hs o2) (by rw [b]; rfl)
    · exact sm_r1 H (ct_Hall_thread_Lock_2 ht hs hk hu o1 o2) (mx_Mod_thread_s_1 ht hs o3) (by rw [b, y3, Int32.add_zero])
    · exact sm_r1 H (ct_Hall_thread_Lock_3 ht hs hk hu o1 o2) (mx_Mod_thread_s_2 ht hs o3) (by rw [b]; rfl)
  · obtain ⟨a, b⟩ := other (by rcases e with e | e <;> rw [e] <;> decide)
    exact sm_r1 H (ct_Hall_thread_Semaphore_1 ht hs hk) (mx_Mod_thread_s_2 ht hs a) (by rw [b]; rfl)
  · obtain ⟨a, b⟩ := other (by rw [e]; decide)
    exact sm_r1 H (ct_Hall_thread_Latch_1 ht hs hk) (mx_Mod_thread_s_2 ht hs a) (by rw [b]; rfl)
  · rcases own with ⟨o1, o2⟩ | ⟨u, hu, o1, o2, o3⟩ | ⟨u, hu, o1, o2, o3⟩
    · exact sm_r1 H (ct_Hall_thread_Shared_1 ht hs hk o1) (mx_Mod_thread_s_2 ht hs o2) (by rw [e17])
    · exact sm_r1 H (ct_Hall_thread_Shared_2 ht hs hk hu o1 o2) (mx_Mod_thread_s_1 ht hs o3) (by rw [e17, y3])
    · exact sm_r1 H (ct_Hall_thread_Shared_3 ht hs hk hu o1 o2) (mx_Mod_thread_s_2 ht hs o3) (by rw [e17])
  · obtain ⟨a, b⟩ := other (by rw [e]; decide)
    exact sm_r1 H (ct_Hall_thread_Condition_1 ht hs hk) (mx_Mod_thread_s_2 ht hs a) (by rw [b]; rfl)
theorem sm_sync_Lock {s n : Nat} (H : rl_All K L I D R k c) (hs : s < 8) (hk : cw_cl (K 12 s) = 4) (h0 : 0 ≤ I 12 s) (hn : n < 9) (h15 : I 15 s = 0) : sm_ok A mq B md_Hall_sync [.ref (A 0), .int (nI s), .int (nI n)] md_Mod_sync [.ref mq, .int (nI s), .int (nI n)] K L I D k c sm_2 := by
  obtain ⟨y1, y2, y3, y4, -⟩ := H.2.1 s hs
  obtain ⟨⟨k19, kl, k18⟩, ⟨i19, il, i18⟩, -⟩ := H.2.2.2.1 s hs
  have e19 : K 19 s = I 19 s := k19.trans i19.symm
  have at_ : ∀ i, i < 6 → (K 19 s ≤ nI i ∧ I 19 s ≤ nI i) ∨ (¬ K 19 s ≤ nI i ∧ ¬ I 19 s ≤ nI i ∧ ∃ u, u < 6 ∧ K 18 (6 * s + i) = nI u ∧ I 18 (6 * s + i) = nI u) := fun i hi => by
    by_cases h : (R s).length ≤ i
    · exact .inl ⟨by rw [k19]; exact nI_le h (by omega), by rw [i19]; exact nI_le h (by omega)⟩
    · obtain ⟨u, hu⟩ : ∃ u, (R s)[i]? = some u := ⟨(R s)[i], List.getElem?_eq_getElem (by omega)⟩
      exact .inr ⟨by rw [k19]; exact nI_ge (by omega) (by omega), by rw [i19]; exact nI_ge (by omega) (by omega), u, (k18 i u hu).2, (k18 i u hu).1, (i18 i u hu).1⟩
  rcases n with _ | _ | _ | _ | _ | _ | _ | _ | _ | n
  · exact sm_r1 H (ct_Hall_sync_Lock_0_1 hs hk) (mx_Mod_sync_0_1 hs h0) (by rw [y1])
  · exact sm_r1 H (ct_Hall_sync_Lock_1_1 hs hk) (mx_Mod_sync_1_1 hs h0) (by rw [e19])
  · rcases at_ 0 (by omega) with ⟨a, b⟩ | ⟨a, b, u, hu, a1, b1⟩
    · exact sm_r1 H (ct_Hall_sync_Lock_2_1 hs hk a) (mx_Mod_sync_2_1 hs h0 b) rfl
    · exact sm_r1 H (ct_Hall_sync_Lock_2_3 hs hk a hu a1) (mx_Mod_sync_2_2 hs h0 b) (by rw [b1])
  · rcases at_ 1 (by omega) with ⟨a, b⟩ | ⟨a, b, u, hu, a1, b1⟩
    · exact sm_r1 H (ct_Hall_sync_Lock_3_1 hs hk a) (mx_Mod_sync_3_1 hs h0 b) rfl
    · exact sm_r1 H (ct_Hall_sync_Lock_3_3 hs hk a hu a1) (mx_Mod_sync_3_2 hs h0 b) (by rw [b1])
  · rcases at_ 2 (by omega) with ⟨a, b⟩ | ⟨a, b, u, hu, a1, b1⟩
    · exact sm_r1 H (ct_Hall_sync_Lock_4_1 hs hk a) (mx_Mod_sync_4_1 hs h0 b) rfl
    · exact sm_r1 H (ct_Hall_sync_Lock_4_3 hs hk a hu a1) (mx_Mod_sync_4_2 hs h0 b) (by rw [b1])
  · rcases at_ 3 (by omega) with ⟨a, b⟩ | ⟨a, b, u, hu, a1, b1⟩
    · exact sm_r1 H (ct_Hall_sync_Lock_5_1 hs hk a) (mx_Mod_sync_5_1 hs h0 b) rfl
    · exact sm_r1 H (ct_Hall_sync_Lock_5_3 hs hk a hu a1) (mx_Mod_sync_5_2 hs h0 b) (by rw [b1])
  · rcases at_ 4 (by omega) with ⟨a, b⟩ | ⟨a, b, u, hu, a1, b1⟩
    · exact sm_r1 H (ct_Hall_sync_Lock_6_1 hs hk a) (mx_Mod_sync_6_1 hs h0 b) rfl
    · exact sm_r1 H (ct_Hall_sync_Lock_6_3 hs hk a hu a1) (mx_Mod_sync_6_2 hs h0 b) (by rw [b1])
  · rcases at_ 5 (by omega) with ⟨a, b⟩ | ⟨a, b, u, hu, a1, b1⟩
    · exact sm_r1 H (ct_Hall_sync_Lock_7_1 hs hk a) (mx_Mod_sync_7_1 hs h0 b) rfl
    · exact sm_r1 H (ct_Hall_sync_Lock_7_3 hs hk a hu a1) (mx_Mod_sync_7_2 hs h0 b) (by rw [b1])
  · exact sm_r1 H (ct_Hall_sync_Lock_8_1 hs hk) (mx_Mod_sync_8_1 hs h0) (by rw [h15])
  · exact absurd hn (by omega)
theorem sm_sync_Semaphore {s n : Nat} (H : rl_All K L I D R k c) (hs : s < 8) (hk : cw_cl (K 12 s) = 5) (h0 : 0 ≤ I 12 s) (hn : n < 9) : sm_ok A mq B md_Hall_sync [.ref (A 0), .int (nI s), .int (nI n)] md_Mod_sync [.ref mq, .int (nI s), .int (nI n)] K L I D k c sm_2 := by
  obtain ⟨y1, y2, y3, y4, -⟩ := H.2.1 s hs
  obtain ⟨⟨k19, kl, k18⟩, ⟨i19, il, i18⟩, -⟩ := H.2.2.2.1 s hs
  have e19 : K 19 s = I 19 s := k19.trans i19.symm
  have at_ : ∀ i, i < 6 → (K 19 s ≤ nI i ∧ I 19 s ≤ nI i) ∨ (¬ K 19 s ≤ nI i ∧ ¬ I 19 s ≤ nI i ∧ ∃ u, u < 6 ∧ K 18 (6 * s + i) = nI u ∧ I 18 (6 * s + i) = nI u) := fun i hi => by
    by_cases h : (R s).length ≤ i
    · exact .inl ⟨by rw [k19]; exact nI_le h (by omega), by rw [i19]; exact nI_le h (by omega)⟩
    · obtain ⟨u, hu⟩ : ∃ u, (R s)[i]? = some u := ⟨(R s)[i], List.getElem?_eq_getElem (by omega)⟩
      exact .inr ⟨by rw [k19]; exact nI_ge (by omega) (by omega), by rw [i19]; exact nI_ge (by omega) (by omega), u, (k18 i u hu).2, (k18 i u hu).1, (i18 i u hu).1⟩
  rcases n with _ | _ | _ | _ | _ | _ | _ | _ | _ | n
  · exact sm_r1 H (ct_Hall_sync_Semaphore_0_1 hs hk) (mx_Mod_sync_0_1 hs h0) (by rw [y1])
  · exact sm_r1 H (ct_Hall_sync_Semaphore_1_1 hs hk) (mx_Mod_sync_1_1 hs h0) (by rw [e19])
  · rcases at_ 0 (by omega) with ⟨a, b⟩ | ⟨a, b, u, hu, a1, b1⟩
    · exact sm_r1 H (ct_Hall_sync_Semaphore_2_1 hs hk a) (mx_Mod_sync_2_1 hs h0 b) rfl
    · exact sm_r1 H (ct_Hall_sync_Semaphore_2_3 hs hk a hu a1) (mx_Mod_sync_2_2 hs h0 b) (by rw [b1])
  · rcases at_ 1 (by omega) with ⟨a, b⟩ | ⟨a, b, u, hu, a1, b1⟩
    · exact sm_r1 H (ct_Hall_sync_Semaphore_3_1 hs hk a) (mx_Mod_sync_3_1 hs h0 b) rfl
    · exact sm_r1 H (ct_Hall_sync_Semaphore_3_3 hs hk a hu a1) (mx_Mod_sync_3_2 hs h0 b) (by rw [b1])
  · rcases at_ 2 (by omega) with ⟨a, b⟩ | ⟨a, b, u, hu, a1, b1⟩
    · exact sm_r1 H (ct_Hall_sync_Semaphore_4_1 hs hk a) (mx_Mod_sync_4_1 hs h0 b) rfl
    · exact sm_r1 H (ct_Hall_sync_Semaphore_4_3 hs hk a hu a1) (mx_Mod_sync_4_2 hs h0 b) (by rw [b1])
  · rcases at_ 3 (by omega) with ⟨a, b⟩ | ⟨a, b, u, hu, a1, b1⟩
    · exact sm_r1 H (ct_Hall_sync_Semaphore_5_1 hs hk a) (mx_Mod_sync_5_1 hs h0 b) rfl
    · exact sm_r1 H (ct_Hall_sync_Semaphore_5_3 hs hk a hu a1) (mx_Mod_sync_5_2 hs h0 b) (by rw [b1])
  · rcases at_ 4 (by omega) with ⟨a, b⟩ | ⟨a, b, u, hu, a1, b1⟩
    · exact sm_r1 H (ct_Hall_sync_Semaphore_6_1 hs hk a) (mx_Mod_sync_6_1 hs h0 b) rfl
    · exact sm_r1 H (ct_Hall_sync_Semaphore_6_3 hs hk a hu a1) (mx_Mod_sync_6_2 hs h0 b) (by rw [b1])
  · rcases at_ 5 (by omega) with ⟨a, b⟩ | ⟨a, b, u, hu, a1, b1⟩
    · exact sm_r1 H (ct_Hall_sync_Semaphore_7_1 hs hk a) (mx_Mod_sync_7_1 hs h0 b) rfl
    · exact sm_r1 H (ct_Hall_sync_Semaphore_7_3 hs hk a hu a1) (mx_Mod_sync_7_2 hs h0 b) (by rw [b1])
  · exact sm_r1 H (ct_Hall_sync_Semaphore_8_1 hs hk) (mx_Mod_sync_8_1 hs h0) (by rw [y4])
  · exact absurd hn (by omega)
theorem sm_sync_Latch {s n : Nat} (H : rl_All K L I D R k c) (hs : s < 8) (hk : cw_cl (K 12 s) = 6) (h0 : 0 ≤ I 12 s) (hn : n < 9) : sm_ok A mq B md_Hall_sync [.ref (A 0), .int (nI s), .int (nI n)] md_Mod_sync [.ref mq, .int (nI s), .int (nI n)] K L I D k c sm_2 := by
  obtain ⟨y1, y2, y3, y4, -⟩ := H.2.1 s hs
  obtain ⟨⟨k19, kl, k18⟩, ⟨i19, il, i18⟩, -⟩ := H.2.2.2.1 s hs
  have e19 : K 19 s = I 19 s := k19.trans i19.symm
  have at_ : ∀ i, i < 6 → (K 19 s ≤ nI i ∧ I 19 s ≤ nI i) ∨ (¬ K 19 s ≤ nI i ∧ ¬ I 19 s ≤ nI i ∧ ∃ u, u < 6 ∧ K 18 (6 * s + i) = nI u ∧ I 18 (6 * s + i) = nI u) := fun i hi => by
    by_cases h : (R s).length ≤ i
    · exact .inl ⟨by rw [k19]; exact nI_le h (by omega), by rw [i19]; exact nI_le h (by omega)⟩
    · obtain ⟨u, hu⟩ : ∃ u, (R s)[i]? = some u := ⟨(R s)[i], List.getElem?_eq_getElem (by omega)⟩
      exact .inr ⟨by rw [k19]; exact nI_ge (by omega) (by omega), by rw [i19]; exact nI_ge (by omega) (by omega), u, (k18 i u hu).2, (k18 i u hu).1, (i18 i u hu).1⟩
  rcases n with _ | _ | _ | _ | _ | _ | _ | _ | _ | n
  · exact sm_r1 H (ct_Hall_sync_Latch_0_1 hs hk) (mx_Mod_sync_0_1 hs h0) (by rw [y1])
  · exact sm_r1 H (ct_Hall_sync_Latch_1_1 hs hk) (mx_Mod_sync_1_1 hs h0) (by rw [e19])
  · rcases at_ 0 (by omega) with ⟨a, b⟩ | ⟨a, b, u, hu, a1, b1⟩
    · exact sm_r1 H (ct_Hall_sync_Latch_2_1 hs hk a) (mx_Mod_sync_2_1 hs h0 b) rfl
    · exact sm_r1 H (ct_Hall_sync_Latch_2_3 hs hk a hu a1) (mx_Mod_sync_2_2 hs h0 b) (by rw [b1])
  · rcases at_ 1 (by omega) with ⟨a, b⟩ | ⟨a, b, u, hu, a1, b1⟩
    · exact sm_r1 H (ct_Hall_sync_Latch_3_1 hs hk a) (mx_Mod_sync_3_1 hs h0 b) rfl
    · exact sm_r1 H (ct_Hall_sync_Latch_3_3 hs hk a hu a1) (mx_Mod_sync_3_2 hs h0 b) (by rw [b1])
  · rcases at_ 2 (by omega) with ⟨a, b⟩ | ⟨a, b, u, hu, a1, b1⟩
    · exact sm_r1 H (ct_Hall_sync_Latch_4_1 hs hk a) (mx_Mod_sync_4_1 hs h0 b) rfl
    · exact sm_r1 H (ct_Hall_sync_Latch_4_3 hs hk a hu a1) (mx_Mod_sync_4_2 hs h0 b) (by rw [b1])
  · rcases at_ 3 (by omega) with ⟨a, b⟩ | ⟨a, b, u, hu, a1, b1⟩
    · exact sm_r1 H (ct_Hall_sync_Latch_5_1 hs hk a) (mx_Mod_sync_5_1 hs h0 b) rfl
    · exact sm_r1 H (ct_Hall_sync_Latch_5_3 hs hk a hu a1) (mx_Mod_sync_5_2 hs h0 b) (by rw [b1])
  · rcases at_ 4 (by omega) with ⟨a, b⟩ | ⟨a, b, u, hu, a1, b1⟩
    · exact sm_r1 H (ct_Hall_sync_Latch_6_1 hs hk a) (mx_Mod_sync_6_1 hs h0 b) rfl
    · exact sm_r1 H (ct_Hall_sync_Latch_6_3 hs hk a hu a1) (mx_Mod_sync_6_2 hs h0 b) (by rw [b1])
  · rcases at_ 5 (by omega) with ⟨a, b⟩ | ⟨a, b, u, hu, a1, b1⟩
    · exact sm_r1 H (ct_Hall_sync_Latch_7_1 hs hk a) (mx_Mod_sync_7_1 hs h0 b) rfl
    · exact sm_r1 H (ct_Hall_sync_Latch_7_3 hs hk a hu a1) (mx_Mod_sync_7_2 hs h0 b) (by rw [b1])
  · exact sm_r1 H (ct_Hall_sync_Latch_8_1 hs hk) (mx_Mod_sync_8_1 hs h0) (by rw [y4])
  · exact absurd hn (by omega)
theorem sm_sync_Shared {s n : Nat} (H : rl_All K L I D R k c) (hs : s < 8) (hk : cw_cl (K 12 s) = 7) (h0 : 0 ≤ I 12 s) (hn : n < 9) (h15 : I 15 s = 0) : sm_ok A mq B md_Hall_sync [.ref (A 0), .int (nI s), .int (nI n)] md_Mod_sync [.ref mq, .int (nI s), .int (nI n)] K L I D k c sm_2 := by
  obtain ⟨y1, y2, y3, y4, -⟩ := H.2.1 s hs
  obtain ⟨⟨k19, kl, k18⟩, ⟨i19, il, i18⟩, -⟩ := H.2.2.2.1 s hs
  have e19 : K 19 s = I 19 s := k19.trans i19.symm
  have at_ : ∀ i, i < 6 → (K 19 s ≤ nI i ∧ I 19 s ≤ nI i) ∨ (¬ K 19 s ≤ nI i ∧ ¬ I 19 s ≤ nI i ∧ ∃ u, u < 6 ∧ K 18 (6 * s + i) = nI u ∧ I 18 (6 * s + i) = nI u) := fun i hi => by
    by_cases h : (R s).length ≤ i
    · exact .inl ⟨by rw [k19]; exact nI_le h (by omega), by rw [i19]; exact nI_le h (by omega)⟩
    · obtain ⟨u, hu⟩ : ∃ u, (R s)[i]? = some u := ⟨(R s)[i], List.getElem?_eq_getElem (by omega)⟩
      exact .inr ⟨by rw [k19]; exact nI_ge (by omega) (by omega), by rw [i19]; exact nI_ge (by omega) (by omega), u, (k18 i u hu).2, (k18 i u hu).1, (i18 i u hu).1⟩
  rcases n with _ | _ | _ | _ | _ | _ | _ | _ | _ | n
  · exact sm_r1 H (ct_Hall_sync_Shared_0_1 hs hk) (mx_Mod_sync_0_1 hs h0) (by rw [y1])
  · exact sm_r1 H (ct_Hall_sync_Shared_1_1 hs hk) (mx_Mod_sync_1_1 hs h0) (by rw [e19])
  · rcases at_ 0 (by omega) with ⟨a, b⟩ | ⟨a, b, u, hu, a1, b1⟩
    · exact sm_r1 H (ct_Hall_sync_Shared_2_1 hs hk a) (mx_Mod_sync_2_1 hs h0 b) rfl
    · exact sm_r1 H (ct_Hall_sync_Shared_2_3 hs hk a hu a1) (mx_Mod_sync_2_2 hs h0 b) (by rw [b1])
  · rcases at_ 1 (by omega) with ⟨a, b⟩ | ⟨a, b, u, hu, a1, b1⟩
    · exact sm_r1 H (ct_Hall_sync_Shared_3_1 hs hk a) (mx_Mod_sync_3_1 hs h0 b) rfl
    · exact sm_r1 H (ct_Hall_sync_Shared_3_3 hs hk a hu a1) (mx_Mod_sync_3_2 hs h0 b) (by rw [b1])
  · rcases at_ 2 (by omega) with ⟨a, b⟩ | ⟨a, b, u, hu, a1, b1⟩
    · exact sm_r1 H (ct_Hall_sync_Shared_4_1 hs hk a) (mx_Mod_sync_4_1 hs h0 b) rfl
    · exact sm_r1 H (ct_Hall_sync_Shared_4_3 hs hk a hu a1) (mx_Mod_sync_4_2 hs h0 b) (by rw [b1])
  · rcases at_ 3 (by omega) with ⟨a, b⟩ | ⟨a, b, u, hu, a1, b1⟩
    · exact sm_r1 H (ct_Hall_sync_Shared_5_1 hs hk a) (mx_Mod_sync_5_1 hs h0 b) rfl
    · exact sm_r1 H (ct_Hall_sync_Shared_5_3 hs hk a hu a1) (mx_Mod_sync_5_2 hs h0 b) (by rw [b1])
  · rcases at_ 4 (by omega) with ⟨a, b⟩ | ⟨a, b, u, hu, a1, b1⟩
    · exact sm_r1 H (ct_Hall_sync_Shared_6_1 hs hk a) (mx_Mod_sync_6_1 hs h0 b) rfl
    · exact sm_r1 H (ct_Hall_sync_Shared_6_3 hs hk a hu a1) (mx_Mod_sync_6_2 hs h0 b) (by rw [b1])
  · rcases at_ 5 (by omega) with ⟨a, b⟩ | ⟨a, b, u, hu, a1, b1⟩
    · exact sm_r1 H (ct_Hall_sync_Shared_7_1 hs hk a) (mx_Mod_sync_7_1 hs h0 b) rfl
    · exact sm_r1 H (ct_Hall_sync_Shared_7_3 hs hk a hu a1) (mx_Mod_sync_7_2 hs h0 b) (by rw [b1])
  · exact sm_r1 H (ct_Hall_sync_Shared_8_1 hs hk) (mx_Mod_sync_8_1 hs h0) (by rw [h15])
  · exact absurd hn (by omega)
theorem sm_sync_Condition {s n : Nat} (H : rl_All K L I D R k c) (hs : s < 8) (hk : cw_cl (K 12 s) = 8) (h0 : 0 ≤ I 12 s) (hn : n < 9) (h15 : I 15 s = 0) : sm_ok A mq B md_Hall_sync [.ref (A 0), .int (nI s), .int (nI n)] md_Mod_sync [.ref mq, .int (nI s), .int (nI n)] K L I D k c sm_2 := by
  obtain ⟨y1, y2, y3, y4, -⟩ := H.2.1 s hs
  obtain ⟨⟨k19, kl, k18⟩, ⟨i19, il, i18⟩, -⟩ := H.2.2.2.1 s hs
  have e19 : K 19 s = I 19 s := k19.trans i19.symm
  have at_ : ∀ i, i < 6 → (K 19 s ≤ nI i ∧ I 19 s ≤ nI i) ∨ (¬ K 19 s ≤ nI i ∧ ¬ I 19 s ≤ nI i ∧ ∃ u, u < 6 ∧ K 18 (6 * s + i) = nI u ∧ I 18 (6 * s + i) = nI u) := fun i hi => by
    by_cases h : (R s).length ≤ i
    · exact .inl ⟨by rw [k19]; exact nI_le h (by omega), by rw [i19]; exact nI_le h (by omega)⟩
    · obtain ⟨u, hu⟩ : ∃ u, (R s)[i]? = some u := ⟨(R s)[i], List.getElem?_eq_getElem (by omega)⟩
      exact .inr ⟨by rw [k19]; exact nI_ge (by omega) (by omega), by rw [i19]; exact nI_ge (by omega) (by omega), u, (k18 i u hu).2, (k18 i u hu).1, (i18 i u hu).1⟩
  rcases n with _ | _ | _ | _ | _ | _ | _ | _ | _ | n
  · exact sm_r1 H (ct_Hall_sync_Condition_0_1 hs hk) (mx_Mod_sync_0_1 hs h0) (by rw [y1])
  · exact sm_r1 H (ct_Hall_sync_Condition_1_1 hs hk) (mx_Mod_sync_1_1 hs h0) (by rw [e19])
  · rcases at_ 0 (by omega) with ⟨a, b⟩ | ⟨a, b, u, hu, a1, b1⟩
    · exact sm_r1 H (ct_Hall_sync_Condition_2_1 hs hk a) (mx_Mod_sync_2_1 hs h0 b) rfl
    · exact sm_r1 H (ct_Hall_sync_Condition_2_3 hs hk a hu a1) (mx_Mod_sync_2_2 hs h0 b) (by rw [b1])
  · rcases at_ 1 (by omega) with ⟨a, b⟩ | ⟨a, b, u, hu, a1, b1⟩
    · exact sm_r1 H (ct_Hall_sync_Condition_3_1 hs hk a) (mx_Mod_sync_3_1 hs h0 b) rfl
    · exact sm_r1 H (ct_Hall_sync_Condition_3_3 hs hk a hu a1) (mx_Mod_sync_3_2 hs h0 b) (by rw [b1])
  · rcases at_ 2 (by omega) with ⟨a, b⟩ | ⟨a, b, u, hu, a1, b1⟩
    · exact sm_r1 H (ct_Hall_sync_Condition_4_1 hs hk a) (mx_Mod_sync_4_1 hs h0 b) rfl
    · exact sm_r1 H (ct_Hall_sync_Condition_4_3 hs hk a hu a1) (mx_Mod_sync_4_2 hs h0 b) (by rw [b1])
  · rcases at_ 3 (by omega) with ⟨a, b⟩ | ⟨a, b, u, hu, a1, b1⟩
    · exact sm_r1 H (ct_Hall_sync_Condition_5_1 hs hk a) (mx_Mod_sync_5_1 hs h0 b) rfl
    · exact sm_r1 H (ct_Hall_sync_Condition_5_3 hs hk a hu a1) (mx_Mod_sync_5_2 hs h0 b) (by rw [b1])
  · rcases at_ 4 (by omega) with ⟨a, b⟩ | ⟨a, b, u, hu, a1, b1⟩
    · exact sm_r1 H (ct_Hall_sync_Condition_6_1 hs hk a) (mx_Mod_sync_6_1 hs h0 b) rfl
    · exact sm_r1 H (ct_Hall_sync_Condition_6_3 hs hk a hu a1) (mx_Mod_sync_6_2 hs h0 b) (by rw [b1])
  · rcases at_ 5 (by omega) with ⟨a, b⟩ | ⟨a, b, u, hu, a1, b1⟩
    · exact sm_r1 H (ct_Hall_sync_Condition_7_1 hs hk a) (mx_Mod_sync_7_1 hs h0 b) rfl
    · exact sm_r1 H (ct_Hall_sync_Condition_7_3 hs hk a hu a1) (mx_Mod_sync_7_2 hs h0 b) (by rw [b1])
  · exact sm_r1 H (ct_Hall_sync_Condition_8_1 hs hk) (mx_Mod_sync_8_1 hs h0) (by rw [h15])
  · exact absurd hn (by omega)
theorem sm_sync {x o : Int32} (H : rl_All K L I D R k c) : sm_ok A mq B md_Hall_sync [.ref (A 0), .int x, .int o] md_Mod_sync [.ref mq, .int x, .int o] K L I D k c sm_2 := by
  rcases sm_rng (a := 7) (b := 8) (m := 7) (by decide) (by decide) x with g | ⟨g1, g2, g3⟩ | ⟨s, hs, rfl, g1, g2, g3⟩
  · rcases sm_rng (a := 8) (b := 9) (m := 8) (by decide) (by decide) o with h | ⟨h1, h2, h3⟩ | ⟨n, hn, rfl, h1, h2, h3⟩
    · exact sm_t2 1 H (ct_Hall_sync_x_1 h) (mx_Mod_sync_x_1 g) (by decide) (by decide)
    · exact sm_t2 1 H (ct_Hall_sync_x_4 h1 h2) (mx_Mod_sync_x_1 g) (by decide) (by decide)
    · exact sm_t2 1 H (ct_Hall_sync_x_2 h1 h2 g) (mx_Mod_sync_x_1 g) (by decide) (by decide)
  · rcases sm_rng (a := 8) (b := 9) (m := 8) (by decide) (by decide) o with h | ⟨h1, h2, h3⟩ | ⟨n, hn, rfl, h1, h2, h3⟩
    · exact sm_t2 1 H (ct_Hall_sync_x_1 h) (mx_Mod_sync_x_4 g1 g3) (by decide) (by decide)
    · exact sm_t2 1 H (ct_Hall_sync_x_4 h1 h2) (mx_Mod_sync_x_4 g1 g3) (by decide) (by decide)
    · exact sm_t2 1 H (ct_Hall_sync_x_3 h1 h2 g1 g2) (mx_Mod_sync_x_4 g1 g3) (by decide) (by decide)
  obtain ⟨y1, y2, y3, y4, y5, y6, y7, y8, y9, ⟨p, -, ep, hp⟩, y11, y12, y13, y14⟩ := H.2.1 s hs
  rw [← y1] at y8
  rcases sm_rng (a := 8) (b := 9) (m := 8) (by decide) (by decide) o with h | ⟨h1, h2, h3⟩ | ⟨n, hn, rfl, h1, h2, h3⟩
  · exact sm_t2 1 H (ct_Hall_sync_x_1 h) (mx_Mod_sync_x_2 g1 g3 h) (by decide) (by decide)
  · exact sm_t2 1 H (ct_Hall_sync_x_4 h1 h2) (mx_Mod_sync_x_3 g1 g3 h1 h3) (by decide) (by decide)
  have hp0 : ¬ (I 12 s = 2 ∨ I 12 s = 3 ∨ I 12 s = 4) → I 15 s = 0 := fun q => by
    rcases hp with h | h
    · rw [ep, h]; rfl
    · exact absurd h q
  rcases rl_kdcl y8 with ⟨e, hk, h0⟩ | ⟨hk, h0, e⟩ | ⟨hk, h0, e⟩ | ⟨hk, h0, e⟩ | ⟨hk, h0, e⟩ | ⟨hk, h0, e⟩ <;> rw [y1] at e h0
  · exact sm_t2 2 H (ct_Hall_sync_none_2 hs hk h1 h2) (mx_Mod_sync_b_6 hs h1 h3 h0) (by decide) (by decide)
  · exact sm_sync_Lock H hs hk h0 hn (hp0 (by rcases e with e | e <;> rw [e] <;> decide))
  · exact sm_sync_Semaphore H hs hk h0 hn
  · exact sm_sync_Latch H hs hk h0 hn
  · exact sm_sync_Shared H hs hk h0 hn (hp0 (by rw [e]; decide))
  · exact sm_sync_Condition H hs hk h0 hn (hp0 (by rw [e]; decide))
end SMB
