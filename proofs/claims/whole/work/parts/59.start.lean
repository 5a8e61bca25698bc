/-! the start: a new hall and a new reference, and their relation -/
def st_A (a : Nat) : Nat → Nat := fun j => if j = 1 then a + 1 else if j = 2 then a + 8 else if j = 3 then a + 9 else if j = 4 then a + 10 else if j = 10 then a + 2 else if j = 11 then a + 3 else if j = 12 then a + 4 else if j = 13 then a + 5 else if j = 14 then a + 6 else if j = 15 then a + 7 else a
def st_K : sh_II := fun r _ => if r = 4 ∨ r = 5 ∨ r = 12 ∨ r = 13 ∨ r = 18 then -1 else 0
def st_I : sh_II := fun r _ => if r = 4 ∨ r = 5 ∨ r = 12 ∨ r = 13 then -1 else 0
def st_D : sh_DD := fun _ _ => FP.dconst0
def st_B (n : Nat) : Nat → Nat := fun i => if i ≤ 10 then n + (i - 1) else n + (i - 2)
theorem st_j {a j : Nat} {o : sh_Ob} (h : cw_ob (st_A a) st_K st_D j = some o) : j < 5 ∨ (10 ≤ j ∧ j < 16) := by
  refine Classical.byContradiction fun hn => ?_
  have e12 : ∀ z, cw_cl (st_K 12 z) = 0 := fun z => rfl
  unfold cw_ob cw_sy at h
  simp only [e12] at h
  simp only [show ¬ j = 0 by omega, show ¬ j = 1 by omega, show ¬ j = 2 by omega, show ¬ j = 3 by omega, show ¬ j = 4 by omega, if_false, if_true] at h
  by_cases h1 : j < 10
  · simp [h1] at h
  · have : ¬ j < 16 := by omega
    simp [h1, this] at h
theorem st_CW {a : Nat} {h : sh_Hp} (f0 : h a = some (false, 0, [.ref (a + 1), .ref (a + 8), .ref (a + 9), .int 0, .double FP.dconst0])) (f1 : h (a + 1) = some (true, 4, [.ref (a + 2), .ref (a + 3), .ref (a + 4), .ref (a + 5), .ref (a + 6), .ref (a + 7)]))
    (fw : ∀ t, t < 6 → h (a + 2 + t) = some (false, 1, [.int (nI t), .double FP.dconst0, .int 0, .int (-1), .null, .int 0, .int 0, .double FP.dconst0, .double FP.dconst0, .int 0, .int 0, .int 0])) (f2 : h (a + 8) = some (true, 5, [.null, .null, .null, .null, .null, .null, .null, .null])) (f3 : h (a + 9) = some (false, 3, [.ref (a + 10), .int 0, .int 0])) (f4 : h (a + 10) = some (true, 0, List.replicate 8 (.int 0))) : sh_CW (st_A a) st_K st_D h := by
  refine ⟨fun j o ho => ?_, fun i j hi hj e => ?_⟩
  · rcases st_j ho with hj | ⟨h1, h2⟩
    · have : j = 0 ∨ j = 1 ∨ j = 2 ∨ j = 3 ∨ j = 4 := by omega
      rcases this with rfl | rfl | rfl | rfl | rfl
      · cases ho; exact f0
      · cases ho; exact f1
      · cases ho; exact f2
      · cases ho; exact f3
      · cases ho; exact f4
    · have : j = 10 ∨ j = 11 ∨ j = 12 ∨ j = 13 ∨ j = 14 ∨ j = 15 := by omega
      rcases this with rfl | rfl | rfl | rfl | rfl | rfl
      · cases ho; exact fw 0 (by omega)
      · cases ho; exact fw 1 (by omega)
      · cases ho; exact fw 2 (by omega)
      · cases ho; exact fw 3 (by omega)
      · cases ho; exact fw 4 (by omega)
      · cases ho; exact fw 5 (by omega)
  · obtain ⟨o1, ho1⟩ := Option.isSome_iff_exists.mp hi
    obtain ⟨o2, ho2⟩ := Option.isSome_iff_exists.mp hj
    have k1 := st_j ho1
    have k2 := st_j ho2
    unfold st_A at e
    have c1 : i = 0 ∨ i = 1 ∨ i = 2 ∨ i = 3 ∨ i = 4 ∨ i = 10 ∨ i = 11 ∨ i = 12 ∨ i = 13 ∨ i = 14 ∨ i = 15 := by omega
    have c2 : j = 0 ∨ j = 1 ∨ j = 2 ∨ j = 3 ∨ j = 4 ∨ j = 10 ∨ j = 11 ∨ j = 12 ∨ j = 13 ∨ j = 14 ∨ j = 15 := by omega
    rcases c1 with h | h | h | h | h | h | h | h | h | h | h <;> subst h <;> rcases c2 with h | h | h | h | h | h | h | h | h | h | h <;> subst h <;> simp at e <;> rfl
theorem st_rel : rl_All st_K st_D st_I st_D (fun _ => []) 0 0 := by
  have fb : rl_fb 0 FP.dconst0 := fp_fb0
  refine ⟨fun t ht => ⟨rfl, rfl, rfl, rfl, rfl, rfl, .inl rfl, .inl rfl, fb, .inl ⟨rfl, rfl, rfl, rfl⟩⟩, fun s hs => ⟨rfl, rfl, rfl, rfl, rfl, rfl, rfl, .inl rfl, .inl ⟨rfl, rfl⟩, ⟨0, by omega, rfl, .inl rfl⟩, ⟨0, by omega, rfl⟩, by rw [Nat.zero_mul]; exact fb, fun _ => ⟨rfl, rfl⟩, fun t ht => ⟨rfl, 0, by omega, rfl, .inl rfl⟩⟩, fun s hs e => absurd e (by show ¬ (-1 : Int32) = 6; decide), fun s hs => ⟨⟨rfl, Nat.zero_le _, fun i u h => (by cases h)⟩, ⟨rfl, Nat.zero_le _, fun i u h => (by cases h)⟩, List.nodup_nil, fun i hi => .inl rfl⟩, fun t s ht hs => ⟨fun h => (by cases h), fun h => absurd h (by show ¬ (-1 : Int32) = nI s; exact nI_m1 (by omega))⟩, fun s hs t h => (by cases h), ⟨rfl, rfl, rfl, fb, (by show 0 ≤ fp_z FP.dconst0; rw [fp_z0]; exact Int.le_refl _), by omega, rfl, fun x hx => .inl rfl, fun i j hi hj => ?_⟩⟩
  show rl_bit 0 j = true ↔ (0 : Int32) = 1
  rw [bt_z hj]
  exact ⟨fun h => (by cases h), fun h => absurd h (by decide)⟩
theorem st_mod {n a : Nat} {h : sh_Hp} (ha : a < n) (f : h a = some (false, 9, [.int 0, .null, .null, .null, .null, .null, .null, .null, .null, .null, .null, .double FP.dconst0, .null, .null, .null, .null, .null, .null, .null, .null, .null, .null, .null, .null, .int 0, .int 0])) : sx_M md_Mod_init [.ref a] n h none (fun n' h' => n' = n + 22 ∧ sh_MW a (st_B n) st_I st_D h' ∧ ∀ q, q < n → q ≠ a → h' q = h q) := by
  refine sx_Mod_init_A (cs := 0) (ss := 0) ha f (fun h0 fa g0 g1 g2 g3 g4 g5 g6 g7 g8 g9 g10 g11 g12 g13 g14 g15 g16 g17 g18 g19 g20 g21 w0 => ?_)
  refine sx_p (fun Z k => sh_iconst (v := 0) dc_Mod_init_180 (by decide) k) ?_
  refine sx_p (fun Z k => sh_istore_n dc_Mod_init_181 rfl (by decide) k) ?_
  refine sx_Mod_init_t0 (n := n + 22) (show a < n + 22 by omega) fa (show n + 3 < n + 22 by omega) g3 (show n + 4 < n + 22 by omega) g4 (show a ≠ n + 3 by omega) (show a ≠ n + 4 by omega) (show n + 3 ≠ n + 4 by omega) (fun h1 fa1 x1 y1 w1 => ?_)
  refine sx_Mod_init_t1 (n := n + 22) (show a < n + 22 by omega) fa1 (show n + 3 < n + 22 by omega) x1 (show n + 4 < n + 22 by omega) y1 (show a ≠ n + 3 by omega) (show a ≠ n + 4 by omega) (show n + 3 ≠ n + 4 by omega) (fun h2 fa2 x2 y2 w2 => ?_)
  refine sx_Mod_init_t2 (n := n + 22) (show a < n + 22 by omega) fa2 (show n + 3 < n + 22 by omega) x2 (show n + 4 < n + 22 by omega) y2 (show a ≠ n + 3 by omega) (show a ≠ n + 4 by omega) (show n + 3 ≠ n + 4 by omega) (fun h3 fa3 x3 y3 w3 => ?_)
  refine sx_Mod_init_t3 (n := n + 22) (show a < n + 22 by omega) fa3 (show n + 3 < n + 22 by omega) x3 (show n + 4 < n + 22 by omega) y3 (show a ≠ n + 3 by omega) (show a ≠ n + 4 by omega) (show n + 3 ≠ n + 4 by omega) (fun h4 fa4 x4 y4 w4 => ?_)
  refine sx_Mod_init_t4 (n := n + 22) (show a < n + 22 by omega) fa4 (show n + 3 < n + 22 by omega) x4 (show n + 4 < n + 22 by omega) y4 (show a ≠ n + 3 by omega) (show a ≠ n + 4 by omega) (show n + 3 ≠ n + 4 by omega) (fun h5 fa5 x5 y5 w5 => ?_)
  refine sx_Mod_init_t5 (n := n + 22) (show a < n + 22 by omega) fa5 (show n + 3 < n + 22 by omega) x5 (show n + 4 < n + 22 by omega) y5 (show a ≠ n + 3 by omega) (show a ≠ n + 4 by omega) (show n + 3 ≠ n + 4 by omega) (fun h6 fa6 x6 y6 w6 => ?_)
  have W1 : ∀ q, q < n + 22 → q ≠ a → q ≠ n + 3 → q ≠ n + 4 → h6 q = h0 q := fun q b d e z => (w6 q b d e z).trans ((w5 q b d e z).trans ((w4 q b d e z).trans ((w3 q b d e z).trans ((w2 q b d e z).trans (w1 q b d e z)))))
  refine sx_p (fun Z k => sh_iload_n dc_Mod_init_182 rfl rfl k) ?_
  refine sx_p (fun Z k => sh_bipush (v := 6) dc_Mod_init_183 (by decide) k) ?_
  refine sx_p (fun Z k => sh_icmp_ge (tgt := 208) dc_Mod_init_185 (by decide) (fun _ => k) (fun z => absurd (by decide) z)) ?_
  refine sx_p (fun Z k => sh_iconst (v := 0) dc_Mod_init_208 (by decide) k) ?_
  refine sx_p (fun Z k => sh_istore_n dc_Mod_init_209 rfl (by decide) k) ?_
  have k10 : h6 (n + 10) = some (true, 0, List.replicate 8 (.int 0)) := (W1 _ (by omega) (by omega) (by omega) (by omega)).trans g10
  have k11 : h6 (n + 11) = some (true, 0, List.replicate 8 (.int 0)) := (W1 _ (by omega) (by omega) (by omega) (by omega)).trans g11
  refine sx_Mod_init_s0 (n := n + 22) (show a < n + 22 by omega) fa6 (show n + 10 < n + 22 by omega) k10 (show n + 11 < n + 22 by omega) k11 (show a ≠ n + 10 by omega) (show a ≠ n + 11 by omega) (show n + 10 ≠ n + 11 by omega) (fun h7 fa7 x7 y7 w7 => ?_)
  refine sx_Mod_init_s1 (n := n + 22) (show a < n + 22 by omega) fa7 (show n + 10 < n + 22 by omega) x7 (show n + 11 < n + 22 by omega) y7 (show a ≠ n + 10 by omega) (show a ≠ n + 11 by omega) (show n + 10 ≠ n + 11 by omega) (fun h8 fa8 x8 y8 w8 => ?_)
  refine sx_Mod_init_s2 (n := n + 22) (show a < n + 22 by omega) fa8 (show n + 10 < n + 22 by omega) x8 (show n + 11 < n + 22 by omega) y8 (show a ≠ n + 10 by omega) (show a ≠ n + 11 by omega) (show n + 10 ≠ n + 11 by omega) (fun h9 fa9 x9 y9 w9 => ?_)
  refine sx_Mod_init_s3 (n := n + 22) (show a < n + 22 by omega) fa9 (show n + 10 < n + 22 by omega) x9 (show n + 11 < n + 22 by omega) y9 (show a ≠ n + 10 by omega) (show a ≠ n + 11 by omega) (show n + 10 ≠ n + 11 by omega) (fun h10 fa10 x10 y10 w10 => ?_)
  refine sx_Mod_init_s4 (n := n + 22) (show a < n + 22 by omega) fa10 (show n + 10 < n + 22 by omega) x10 (show n + 11 < n + 22 by omega) y10 (show a ≠ n + 10 by omega) (show a ≠ n + 11 by omega) (show n + 10 ≠ n + 11 by omega) (fun h11 fa11 x11 y11 w11 => ?_)
  refine sx_Mod_init_s5 (n := n + 22) (show a < n + 22 by omega) fa11 (show n + 10 < n + 22 by omega) x11 (show n + 11 < n + 22 by omega) y11 (show a ≠ n + 10 by omega) (show a ≠ n + 11 by omega) (show n + 10 ≠ n + 11 by omega) (fun h12 fa12 x12 y12 w12 => ?_)
  refine sx_Mod_init_s6 (n := n + 22) (show a < n + 22 by omega) fa12 (show n + 10 < n + 22 by omega) x12 (show n + 11 < n + 22 by omega) y12 (show a ≠ n + 10 by omega) (show a ≠ n + 11 by omega) (show n + 10 ≠ n + 11 by omega) (fun h13 fa13 x13 y13 w13 => ?_)
  refine sx_Mod_init_s7 (n := n + 22) (show a < n + 22 by omega) fa13 (show n + 10 < n + 22 by omega) x13 (show n + 11 < n + 22 by omega) y13 (show a ≠ n + 10 by omega) (show a ≠ n + 11 by omega) (show n + 10 ≠ n + 11 by omega) (fun h14 fa14 x14 y14 w14 => ?_)
  have W2 : ∀ q, q < n + 22 → q ≠ a → q ≠ n + 10 → q ≠ n + 11 → h14 q = h6 q := fun q b d e z => (w14 q b d e z).trans ((w13 q b d e z).trans ((w12 q b d e z).trans ((w11 q b d e z).trans ((w10 q b d e z).trans ((w9 q b d e z).trans ((w8 q b d e z).trans (w7 q b d e z)))))))
  refine sx_p (fun Z k => sh_iload_n dc_Mod_init_210 rfl rfl k) ?_
  refine sx_p (fun Z k => sh_bipush (v := 8) dc_Mod_init_211 (by decide) k) ?_
  refine sx_p (fun Z k => sh_icmp_ge (tgt := 236) dc_Mod_init_213 (by decide) (fun _ => k) (fun z => absurd (by decide) z)) ?_
  have z0 := (W2 _ (by omega) (by omega) (by omega) (by omega)).trans ((W1 _ (by omega) (by omega) (by omega) (by omega)).trans g0)
  have z1 := (W2 _ (by omega) (by omega) (by omega) (by omega)).trans ((W1 _ (by omega) (by omega) (by omega) (by omega)).trans g1)
  have z2 := (W2 _ (by omega) (by omega) (by omega) (by omega)).trans ((W1 _ (by omega) (by omega) (by omega) (by omega)).trans g2)
  have z3 := (W2 _ (by omega) (by omega) (by omega) (by omega)).trans x6
  have z4 := (W2 _ (by omega) (by omega) (by omega) (by omega)).trans y6
  have z5 := (W2 _ (by omega) (by omega) (by omega) (by omega)).trans ((W1 _ (by omega) (by omega) (by omega) (by omega)).trans g5)
  have z6 := (W2 _ (by omega) (by omega) (by omega) (by omega)).trans ((W1 _ (by omega) (by omega) (by omega) (by omega)).trans g6)
  have z7 := (W2 _ (by omega) (by omega) (by omega) (by omega)).trans ((W1 _ (by omega) (by omega) (by omega) (by omega)).trans g7)
  have z8 := (W2 _ (by omega) (by omega) (by omega) (by omega)).trans ((W1 _ (by omega) (by omega) (by omega) (by omega)).trans g8)
  have z9 := (W2 _ (by omega) (by omega) (by omega) (by omega)).trans ((W1 _ (by omega) (by omega) (by omega) (by omega)).trans g9)
  have z12 := (W2 _ (by omega) (by omega) (by omega) (by omega)).trans ((W1 _ (by omega) (by omega) (by omega) (by omega)).trans g12)
  have z13 := (W2 _ (by omega) (by omega) (by omega) (by omega)).trans ((W1 _ (by omega) (by omega) (by omega) (by omega)).trans g13)
  have z14 := (W2 _ (by omega) (by omega) (by omega) (by omega)).trans ((W1 _ (by omega) (by omega) (by omega) (by omega)).trans g14)
  have z15 := (W2 _ (by omega) (by omega) (by omega) (by omega)).trans ((W1 _ (by omega) (by omega) (by omega) (by omega)).trans g15)
  have z16 := (W2 _ (by omega) (by omega) (by omega) (by omega)).trans ((W1 _ (by omega) (by omega) (by omega) (by omega)).trans g16)
  have z17 := (W2 _ (by omega) (by omega) (by omega) (by omega)).trans ((W1 _ (by omega) (by omega) (by omega) (by omega)).trans g17)
  have z18 := (W2 _ (by omega) (by omega) (by omega) (by omega)).trans ((W1 _ (by omega) (by omega) (by omega) (by omega)).trans g18)
  have z19 := (W2 _ (by omega) (by omega) (by omega) (by omega)).trans ((W1 _ (by omega) (by omega) (by omega) (by omega)).trans g19)
  have z20 := (W2 _ (by omega) (by omega) (by omega) (by omega)).trans ((W1 _ (by omega) (by omega) (by omega) (by omega)).trans g20)
  have z21 := (W2 _ (by omega) (by omega) (by omega) (by omega)).trans ((W1 _ (by omega) (by omega) (by omega) (by omega)).trans g21)
  have z10 := x14
  have z11 := y14
  refine sx_e (sh_return dc_Mod_init_236 rfl (by decide) (by decide)) ⟨rfl, ⟨fa14, fun x hx => ?_, fun x hx y hy e => ?_, fun x hx => ?_, fun x hx h3 j _ => ?_⟩, fun q hq hqa => (W2 q (by omega) hqa (by omega) (by omega)).trans ((W1 q (by omega) hqa (by omega) (by omega)).trans (w0 q hq hqa))⟩
  · simp only [sh_ml, List.mem_cons, List.not_mem_nil, or_false] at hx
    rcases hx with rfl | rfl | rfl | rfl | rfl | rfl | rfl | rfl | rfl | rfl | rfl | rfl | rfl | rfl | rfl | rfl | rfl | rfl | rfl | rfl | rfl | rfl
    · exact z0
    · exact z1
    · exact z2
    · exact z3
    · exact z4
    · exact z5
    · exact z6
    · exact z7
    · exact z8
    · exact z9
    · exact z10
    · exact z11
    · exact z12
    · exact z13
    · exact z14
    · exact z15
    · exact z16
    · exact z17
    · exact z18
    · exact z19
    · exact z20
    · exact z21
  · simp only [sh_ml, List.mem_cons, List.not_mem_nil, or_false] at hx hy
    have bx : x.1 ≤ 10 ∨ 12 ≤ x.1 := by rcases hx with rfl | rfl | rfl | rfl | rfl | rfl | rfl | rfl | rfl | rfl | rfl | rfl | rfl | rfl | rfl | rfl | rfl | rfl | rfl | rfl | rfl | rfl <;> decide
    have by' : y.1 ≤ 10 ∨ 12 ≤ y.1 := by rcases hy with rfl | rfl | rfl | rfl | rfl | rfl | rfl | rfl | rfl | rfl | rfl | rfl | rfl | rfl | rfl | rfl | rfl | rfl | rfl | rfl | rfl | rfl <;> decide
    have px : 1 ≤ x.1 := by rcases hx with rfl | rfl | rfl | rfl | rfl | rfl | rfl | rfl | rfl | rfl | rfl | rfl | rfl | rfl | rfl | rfl | rfl | rfl | rfl | rfl | rfl | rfl <;> decide
    have py : 1 ≤ y.1 := by rcases hy with rfl | rfl | rfl | rfl | rfl | rfl | rfl | rfl | rfl | rfl | rfl | rfl | rfl | rfl | rfl | rfl | rfl | rfl | rfl | rfl | rfl | rfl <;> decide
    unfold st_B at e
    split at e <;> split at e <;> omega
  · unfold st_B
    split <;> omega
  · simp only [sh_ml, List.mem_cons, List.not_mem_nil, or_false] at hx
    rcases hx with rfl | rfl | rfl | rfl | rfl | rfl | rfl | rfl | rfl | rfl | rfl | rfl | rfl | rfl | rfl | rfl | rfl | rfl | rfl | rfl | rfl | rfl <;> first | exact .inl rfl | exact absurd h3 (by decide)
