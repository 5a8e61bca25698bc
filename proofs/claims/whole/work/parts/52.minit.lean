theorem sx_Mod_init_A {n : Nat} {h : sh_Hp} {a : Nat} {cs ss : Nat} {v : Option Value} {P : Nat → sh_Hp → Prop} (h_a : a < n) (f_a : h a = some (false, 9, [.int 0, .null, .null, .null, .null, .null, .null, .null, .null, .null, .null, .double FP.dconst0, .null, .null, .null, .null, .null, .null, .null, .null, .null, .null, .null, .null, .int 0, .int 0]))  (k9 : ∀ h1 : sh_Hp, h1 a = some (false, 9, [.int 0, .ref n, .ref (n + 1), .ref (n + 1 + 1), .ref (n + 1 + 1 + 1), .ref (n + 1 + 1 + 1 + 1), .ref (n + 1 + 1 + 1 + 1 + 1), .ref (n + 1 + 1 + 1 + 1 + 1 + 1), .ref (n + 1 + 1 + 1 + 1 + 1 + 1 + 1), .ref (n + 1 + 1 + 1 + 1 + 1 + 1 + 1 + 1), .ref (n + 1 + 1 + 1 + 1 + 1 + 1 + 1 + 1 + 1), .double FP.dconst0, .ref (n + 1 + 1 + 1 + 1 + 1 + 1 + 1 + 1 + 1 + 1), .ref (n + 1 + 1 + 1 + 1 + 1 + 1 + 1 + 1 + 1 + 1 + 1), .ref (n + 1 + 1 + 1 + 1 + 1 + 1 + 1 + 1 + 1 + 1 + 1 + 1), .ref (n + 1 + 1 + 1 + 1 + 1 + 1 + 1 + 1 + 1 + 1 + 1 + 1 + 1), .ref (n + 1 + 1 + 1 + 1 + 1 + 1 + 1 + 1 + 1 + 1 + 1 + 1 + 1 + 1), .ref (n + 1 + 1 + 1 + 1 + 1 + 1 + 1 + 1 + 1 + 1 + 1 + 1 + 1 + 1 + 1), .ref (n + 1 + 1 + 1 + 1 + 1 + 1 + 1 + 1 + 1 + 1 + 1 + 1 + 1 + 1 + 1 + 1), .ref (n + 1 + 1 + 1 + 1 + 1 + 1 + 1 + 1 + 1 + 1 + 1 + 1 + 1 + 1 + 1 + 1 + 1), .ref (n + 1 + 1 + 1 + 1 + 1 + 1 + 1 + 1 + 1 + 1 + 1 + 1 + 1 + 1 + 1 + 1 + 1 + 1), .ref (n + 1 + 1 + 1 + 1 + 1 + 1 + 1 + 1 + 1 + 1 + 1 + 1 + 1 + 1 + 1 + 1 + 1 + 1 + 1), .ref (n + 1 + 1 + 1 + 1 + 1 + 1 + 1 + 1 + 1 + 1 + 1 + 1 + 1 + 1 + 1 + 1 + 1 + 1 + 1 + 1), .ref (n + 1 + 1 + 1 + 1 + 1 + 1 + 1 + 1 + 1 + 1 + 1 + 1 + 1 + 1 + 1 + 1 + 1 + 1 + 1 + 1 + 1), .int 0, .int 0]) → h1 n = some (true, 3, List.replicate 6 (.int 0)) → h1 (n + 1) = some (true, 3, List.replicate 6 (.int 0)) → h1 (n + 1 + 1) = some (true, 2, List.replicate 6 (.double FP.dconst0)) → h1 (n + 1 + 1 + 1) = some (true, 0, List.replicate 6 (.int 0)) → h1 (n + 1 + 1 + 1 + 1) = some (true, 0, List.replicate 6 (.int 0)) → h1 (n + 1 + 1 + 1 + 1 + 1) = some (true, 0, List.replicate 6 (.int 0)) → h1 (n + 1 + 1 + 1 + 1 + 1 + 1) = some (true, 2, List.replicate 6 (.double FP.dconst0)) → h1 (n + 1 + 1 + 1 + 1 + 1 + 1 + 1) = some (true, 2, List.replicate 6 (.double FP.dconst0)) → h1 (n + 1 + 1 + 1 + 1 + 1 + 1 + 1 + 1) = some (true, 0, List.replicate 6 (.int 0)) → h1 (n + 1 + 1 + 1 + 1 + 1 + 1 + 1 + 1 + 1) = some (true, 0, List.replicate 6 (.int 0)) → h1 (n + 1 + 1 + 1 + 1 + 1 + 1 + 1 + 1 + 1 + 1) = some (true, 0, List.replicate 8 (.int 0)) → h1 (n + 1 + 1 + 1 + 1 + 1 + 1 + 1 + 1 + 1 + 1 + 1) = some (true, 0, List.replicate 8 (.int 0)) → h1 (n + 1 + 1 + 1 + 1 + 1 + 1 + 1 + 1 + 1 + 1 + 1 + 1) = some (true, 0, List.replicate 8 (.int 0)) → h1 (n + 1 + 1 + 1 + 1 + 1 + 1 + 1 + 1 + 1 + 1 + 1 + 1 + 1) = some (true, 0, List.replicate 8 (.int 0)) → h1 (n + 1 + 1 + 1 + 1 + 1 + 1 + 1 + 1 + 1 + 1 + 1 + 1 + 1 + 1) = some (true, 0, List.replicate 8 (.int 0)) → h1 (n + 1 + 1 + 1 + 1 + 1 + 1 + 1 + 1 + 1 + 1 + 1 + 1 + 1 + 1 + 1) = some (true, 0, List.replicate 48 (.int 0)) → h1 (n + 1 + 1 + 1 + 1 + 1 + 1 + 1 + 1 + 1 + 1 + 1 + 1 + 1 + 1 + 1 + 1) = some (true, 0, List.replicate 48 (.int 0)) → h1 (n + 1 + 1 + 1 + 1 + 1 + 1 + 1 + 1 + 1 + 1 + 1 + 1 + 1 + 1 + 1 + 1 + 1) = some (true, 0, List.replicate 8 (.int 0)) → h1 (n + 1 + 1 + 1 + 1 + 1 + 1 + 1 + 1 + 1 + 1 + 1 + 1 + 1 + 1 + 1 + 1 + 1 + 1) = some (true, 2, List.replicate 8 (.double FP.dconst0)) → h1 (n + 1 + 1 + 1 + 1 + 1 + 1 + 1 + 1 + 1 + 1 + 1 + 1 + 1 + 1 + 1 + 1 + 1 + 1 + 1) = some (true, 0, List.replicate 8 (.int 0)) → h1 (n + 1 + 1 + 1 + 1 + 1 + 1 + 1 + 1 + 1 + 1 + 1 + 1 + 1 + 1 + 1 + 1 + 1 + 1 + 1 + 1) = some (true, 3, List.replicate 64 (.int 0)) → h1 (n + 1 + 1 + 1 + 1 + 1 + 1 + 1 + 1 + 1 + 1 + 1 + 1 + 1 + 1 + 1 + 1 + 1 + 1 + 1 + 1 + 1) = some (true, 3, List.replicate 8 (.int 0)) → (∀ q, q < n → q ≠ a → h1 q = h q) → sx_W md_Mod_init (180, [(0, .ref a)], []) (n + 1 + 1 + 1 + 1 + 1 + 1 + 1 + 1 + 1 + 1 + 1 + 1 + 1 + 1 + 1 + 1 + 1 + 1 + 1 + 1 + 1 + 1) h1 22 292 v P) : sx_W md_Mod_init (0, [(0, .ref a)], []) n h 0 0 v P := by
  have w0 : ∀ q, q < n → q ≠ a → h q = h q := fun _ _ _ => rfl
  refine sx_p (fun Z k => sh_aload_n dc_Mod_init_0 rfl rfl k) ?_
  refine sx_p (fun Z k => sh_obj dc_Mod_init_1 wd_861 wd_75 wd_76 (by decide) (by decide) k) ?_
  refine sx_p (fun Z k => sh_aload_n dc_Mod_init_4 rfl rfl k) ?_
  refine sx_p (fun Z k => sh_bipush (v := 6) dc_Mod_init_5 (by decide) k) ?_
  refine sx_n (o := (true, 3, List.replicate 6 (.int 0))) (fun Z k => sh_newa (N := 6) dc_Mod_init_7 rfl (ti := 3) rfl (fun U cA q => q) wd_941 (by decide) (by decide) (by decide) (by decide) (by decide) k) ?_
  intro h1 g1 e1
  have f1_0 : h1 a = some (false, 9, [.int 0, .null, .null, .null, .null, .null, .null, .null, .null, .null, .null, .double FP.dconst0, .null, .null, .null, .null, .null, .null, .null, .null, .null, .null, .null, .null, .int 0, .int 0]) := (e1 _ (by omega)).trans f_a
  have f1_1 : h1 n = some (true, 3, List.replicate 6 (.int 0)) := g1
  have w1 : ∀ q, q < n → q ≠ a → h1 q = h q := fun q hq na => (e1 q (by omega)).trans (w0 q hq na)
  refine sx_o (q := a) (o := (false, 9, [.int 0, .ref n, .null, .null, .null, .null, .null, .null, .null, .null, .null, .double FP.dconst0, .null, .null, .null, .null, .null, .null, .null, .null, .null, .null, .null, .null, .int 0, .int 0])) (fun Z k => sh_putF (k := 1) dc_Mod_init_9 f1_0 rfl (by decide) wd_863 rfl rfl rfl pd_AZ rfl rfl k) ?_
  intro h2 g2 e2
  have f2_1 : h2 n = some (true, 3, List.replicate 6 (.int 0)) := (e2 _ (by omega)).trans f1_1
  have f2_0 : h2 a = some (false, 9, [.int 0, .ref n, .null, .null, .null, .null, .null, .null, .null, .null, .null, .double FP.dconst0, .null, .null, .null, .null, .null, .null, .null, .null, .null, .null, .null, .null, .int 0, .int 0]) := g2
  have w2 : ∀ q, q < n → q ≠ a → h2 q = h q := fun q hq na => (e2 q (by omega)).trans (w1 q hq na)
  refine sx_p (fun Z k => sh_aload_n dc_Mod_init_12 rfl rfl k) ?_
  refine sx_p (fun Z k => sh_bipush (v := 6) dc_Mod_init_13 (by decide) k) ?_
  refine sx_n (o := (true, 3, List.replicate 6 (.int 0))) (fun Z k => sh_newa (N := 6) dc_Mod_init_15 rfl (ti := 3) rfl (fun U cA q => q) wd_941 (by decide) (by decide) (by decide) (by decide) (by decide) k) ?_
  intro h3 g3 e3
  have f3_0 : h3 a = some (false, 9, [.int 0, .ref n, .null, .null, .null, .null, .null, .null, .null, .null, .null, .double FP.dconst0, .null, .null, .null, .null, .null, .null, .null, .null, .null, .null, .null, .null, .int 0, .int 0]) := (e3 _ (by omega)).trans f2_0
  have f3_1 : h3 n = some (true, 3, List.replicate 6 (.int 0)) := (e3 _ (by omega)).trans f2_1
  have f3_2 : h3 (n + 1) = some (true, 3, List.replicate 6 (.int 0)) := g3
  have w3 : ∀ q, q < n → q ≠ a → h3 q = h q := fun q hq na => (e3 q (by omega)).trans (w2 q hq na)
  refine sx_o (q := a) (o := (false, 9, [.int 0, .ref n, .ref (n + 1), .null, .null, .null, .null, .null, .null, .null, .null, .double FP.dconst0, .null, .null, .null, .null, .null, .null, .null, .null, .null, .null, .null, .null, .int 0, .int 0])) (fun Z k => sh_putF (k := 2) dc_Mod_init_17 f3_0 rfl (by decide) wd_864 rfl rfl rfl pd_AZ rfl rfl k) ?_
  intro h4 g4 e4
  have f4_1 : h4 n = some (true, 3, List.replicate 6 (.int 0)) := (e4 _ (by omega)).trans f3_1
  have f4_2 : h4 (n + 1) = some (true, 3, List.replicate 6 (.int 0)) := (e4 _ (by omega)).trans f3_2
  have f4_0 : h4 a = some (false, 9, [.int 0, .ref n, .ref (n + 1), .null, .null, .null, .null, .null, .null, .null, .null, .double FP.dconst0, .null, .null, .null, .null, .null, .null, .null, .null, .null, .null, .null, .null, .int 0, .int 0]) := g4
  have w4 : ∀ q, q < n → q ≠ a → h4 q = h q := fun q hq na => (e4 q (by omega)).trans (w3 q hq na)
  refine sx_p (fun Z k => sh_aload_n dc_Mod_init_20 rfl rfl k) ?_
  refine sx_p (fun Z k => sh_bipush (v := 6) dc_Mod_init_21 (by decide) k) ?_
  refine sx_n (o := (true, 2, List.replicate 6 (.double FP.dconst0))) (fun Z k => sh_newa (N := 6) dc_Mod_init_23 rfl (ti := 2) rfl (fun U cA q => q) wd_942 (by decide) (by decide) (by decide) (by decide) (by decide) k) ?_
  intro h5 g5 e5
  have f5_0 : h5 a = some (false, 9, [.int 0, .ref n, .ref (n + 1), .null, .null, .null, .null, .null, .null, .null, .null, .double FP.dconst0, .null, .null, .null, .null, .null, .null, .null, .null, .null, .null, .null, .null, .int 0, .int 0]) := (e5 _ (by omega)).trans f4_0
  have f5_1 : h5 n = some (true, 3, List.replicate 6 (.int 0)) := (e5 _ (by omega)).trans f4_1
  have f5_2 : h5 (n + 1) = some (true, 3, List.replicate 6 (.int 0)) := (e5 _ (by omega)).trans f4_2
  have f5_3 : h5 (n + 1 + 1) = some (true, 2, List.replicate 6 (.double FP.dconst0)) := g5
  have w5 : ∀ q, q < n → q ≠ a → h5 q = h q := fun q hq na => (e5 q (by omega)).trans (w4 q hq na)
  refine sx_o (q := a) (o := (false, 9, [.int 0, .ref n, .ref (n + 1), .ref (n + 1 + 1), .null, .null, .null, .null, .null, .null, .null, .double FP.dconst0, .null, .null, .null, .null, .null, .null, .null, .null, .null, .null, .null, .null, .int 0, .int 0])) (fun Z k => sh_putF (k := 3) dc_Mod_init_25 f5_0 rfl (by decide) wd_865 rfl rfl rfl pd_AD rfl rfl k) ?_
  intro h6 g6 e6
  have f6_1 : h6 n = some (true, 3, List.replicate 6 (.int 0)) := (e6 _ (by omega)).trans f5_1
  have f6_2 : h6 (n + 1) = some (true, 3, List.replicate 6 (.int 0)) := (e6 _ (by omega)).trans f5_2
  have f6_3 : h6 (n + 1 + 1) = some (true, 2, List.replicate 6 (.double FP.dconst0)) := (e6 _ (by omega)).trans f5_3
  have f6_0 : h6 a = some (false, 9, [.int 0, .ref n, .ref (n + 1), .ref (n + 1 + 1), .null, .null, .null, .null, .null, .null, .null, .double FP.dconst0, .null, .null, .null, .null, .null, .null, .null, .null, .null, .null, .null, .null, .int 0, .int 0]) := g6
  have w6 : ∀ q, q < n → q ≠ a → h6 q = h q := fun q hq na => (e6 q (by omega)).trans (w5 q hq na)
  refine sx_p (fun Z k => sh_aload_n dc_Mod_init_28 rfl rfl k) ?_
  refine sx_p (fun Z k => sh_bipush (v := 6) dc_Mod_init_29 (by decide) k) ?_
  refine sx_n (o := (true, 0, List.replicate 6 (.int 0))) (fun Z k => sh_newa (N := 6) dc_Mod_init_31 rfl (ti := 0) rfl (fun U cA q => q) wd_159 (by decide) (by decide) (by decide) (by decide) (by decide) k) ?_
  intro h7 g7 e7
  have f7_0 : h7 a = some (false, 9, [.int 0, .ref n, .ref (n + 1), .ref (n + 1 + 1), .null, .null, .null, .null, .null, .null, .null, .double FP.dconst0, .null, .null, .null, .null, .null, .null, .null, .null, .null, .null, .null, .null, .int 0, .int 0]) := (e7 _ (by omega)).trans f6_0
  have f7_1 : h7 n = some (true, 3, List.replicate 6 (.int 0)) := (e7 _ (by omega)).trans f6_1
  have f7_2 : h7 (n + 1) = some (true, 3, List.replicate 6 (.int 0)) := (e7 _ (by omega)).trans f6_2
  have f7_3 : h7 (n + 1 + 1) = some (true, 2, List.replicate 6 (.double FP.dconst0)) := (e7 _ (by omega)).trans f6_3
  have f7_4 : h7 (n + 1 + 1 + 1) = some (true, 0, List.replicate 6 (.int 0)) := g7
  have w7 : ∀ q, q < n → q ≠ a → h7 q = h q := fun q hq na => (e7 q (by omega)).trans (w6 q hq na)
  refine sx_o (q := a) (o := (false, 9, [.int 0, .ref n, .ref (n + 1), .ref (n + 1 + 1), .ref (n + 1 + 1 + 1), .null, .null, .null, .null, .null, .null, .double FP.dconst0, .null, .null, .null, .null, .null, .null, .null, .null, .null, .null, .null, .null, .int 0, .int 0])) (fun Z k => sh_putF (k := 4) dc_Mod_init_33 f7_0 rfl (by decide) wd_866 rfl rfl rfl pd_AI rfl rfl k) ?_
  intro h8 g8 e8
  have f8_1 : h8 n = some (true, 3, List.replicate 6 (.int 0)) := (e8 _ (by omega)).trans f7_1
  have f8_2 : h8 (n + 1) = some (true, 3, List.replicate 6 (.int 0)) := (e8 _ (by omega)).trans f7_2
  have f8_3 : h8 (n + 1 + 1) = some (true, 2, List.replicate 6 (.double FP.dconst0)) := (e8 _ (by omega)).trans f7_3
  have f8_4 : h8 (n + 1 + 1 + 1) = some (true, 0, List.replicate 6 (.int 0)) := (e8 _ (by omega)).trans f7_4
  have f8_0 : h8 a = some (false, 9, [.int 0, .ref n, .ref (n + 1), .ref (n + 1 + 1), .ref (n + 1 + 1 + 1), .null, .null, .null, .null, .null, .null, .double FP.dconst0, .null, .null, .null, .null, .null, .null, .null, .null, .null, .null, .null, .null, .int 0, .int 0]) := g8
  have w8 : ∀ q, q < n → q ≠ a → h8 q = h q := fun q hq na => (e8 q (by omega)).trans (w7 q hq na)
  refine sx_p (fun Z k => sh_aload_n dc_Mod_init_36 rfl rfl k) ?_
  refine sx_p (fun Z k => sh_bipush (v := 6) dc_Mod_init_37 (by decide) k) ?_
  refine sx_n (o := (true, 0, List.replicate 6 (.int 0))) (fun Z k => sh_newa (N := 6) dc_Mod_init_39 rfl (ti := 0) rfl (fun U cA q => q) wd_159 (by decide) (by decide) (by decide) (by decide) (by decide) k) ?_
  intro h9 g9 e9
  have f9_0 : h9 a = some (false, 9, [.int 0, .ref n, .ref (n + 1), .ref (n + 1 + 1), .ref (n + 1 + 1 + 1), .null, .null, .null, .null, .null, .null, .double FP.dconst0, .null, .null, .null, .null, .null, .null, .null, .null, .null, .null, .null, .null, .int 0, .int 0]) := (e9 _ (by omega)).trans f8_0
  have f9_1 : h9 n = some (true, 3, List.replicate 6 (.int 0)) := (e9 _ (by omega)).trans f8_1
  have f9_2 : h9 (n + 1) = some (true, 3, List.replicate 6 (.int 0)) := (e9 _ (by omega)).trans f8_2
  have f9_3 : h9 (n + 1 + 1) = some (true, 2, List.replicate 6 (.double FP.dconst0)) := (e9 _ (by omega)).trans f8_3
  have f9_4 : h9 (n + 1 + 1 + 1) = some (true, 0, List.replicate 6 (.int 0)) := (e9 _ (by omega)).trans f8_4
  have f9_5 : h9 (n + 1 + 1 + 1 + 1) = some (true, 0, List.replicate 6 (.int 0)) := g9
  have w9 : ∀ q, q < n → q ≠ a → h9 q = h q := fun q hq na => (e9 q (by omega)).trans (w8 q hq na)
  refine sx_o (q := a) (o := (false, 9, [.int 0, .ref n, .ref (n + 1), .ref (n + 1 + 1), .ref (n + 1 + 1 + 1), .ref (n + 1 + 1 + 1 + 1), .null, .null, .null, .null, .null, .double FP.dconst0, .null, .null, .null, .null, .null, .null, .null, .null, .null, .null, .null, .null, .int 0, .int 0])) (fun Z k => sh_putF (k := 5) dc_Mod_init_41 f9_0 rfl (by decide) wd_867 rfl rfl rfl pd_AI rfl rfl k) ?_
  intro h10 g10 e10
  have f10_1 : h10 n = some (true, 3, List.replicate 6 (.int 0)) := (e10 _ (by omega)).trans f9_1
  have f10_2 : h10 (n + 1) = some (true, 3, List.replicate 6 (.int 0)) := (e10 _ (by omega)).trans f9_2
  have f10_3 : h10 (n + 1 + 1) = some (true, 2, List.replicate 6 (.double FP.dconst0)) := (e10 _ (by omega)).trans f9_3
  have f10_4 : h10 (n + 1 + 1 + 1) = some (true, 0, List.replicate 6 (.int 0)) := (e10 _ (by omega)).trans f9_4
  have f10_5 : h10 (n + 1 + 1 + 1 + 1) = some (true, 0, List.replicate 6 (.int 0)) := (e10 _ (by omega)).trans f9_5
  have f10_0 : h10 a = some (false, 9, [.int 0, .ref n, .ref (n + 1), .ref (n + 1 + 1), .ref (n + 1 + 1 + 1), .ref (n + 1 + 1 + 1 + 1), .null, .null, .null, .null, .null, .double FP.dconst0, .null, .null, .null, .null, .null, .null, .null, .null, .null, .null, .null, .null, .int 0, .int 0]) := g10
  have w10 : ∀ q, q < n → q ≠ a → h10 q = h q := fun q hq na => (e10 q (by omega)).trans (w9 q hq na)
  refine sx_p (fun Z k => sh_aload_n dc_Mod_init_44 rfl rfl k) ?_
  refine sx_p (fun Z k => sh_bipush (v := 6) dc_Mod_init_45 (by decide) k) ?_
  refine sx_n (o := (true, 0, List.replicate 6 (.int 0))) (fun Z k => sh_newa (N := 6) dc_Mod_init_47 rfl (ti := 0) rfl (fun U cA q => q) wd_159 (by decide) (by decide) (by decide) (by decide) (by decide) k) ?_
  intro h11 g11 e11
  have f11_0 : h11 a = some (false, 9, [.int 0, .ref n, .ref (n + 1), .ref (n + 1 + 1), .ref (n + 1 + 1 + 1), .ref (n + 1 + 1 + 1 + 1), .null, .null, .null, .null, .null, .double FP.dconst0, .null, .null, .null, .null, .null, .null, .null, .null, .null, .null, .null, .null, .int 0, .int 0]) := (e11 _ (by omega)).trans f10_0
  have f11_1 : h11 n = some (true, 3, List.replicate 6 (.int 0)) := (e11 _ (by omega)).trans f10_1
  have f11_2 : h11 (n + 1) = some (true, 3, List.replicate 6 (.int 0)) := (e11 _ (by omega)).trans f10_2
  have f11_3 : h11 (n + 1 + 1) = some (true, 2, List.replicate 6 (.double FP.dconst0)) := (e11 _ (by omega)).trans f10_3
  have f11_4 : h11 (n + 1 + 1 + 1) = some (true, 0, List.replicate 6 (.int 0)) := (e11 _ (by omega)).trans f10_4
  have f11_5 : h11 (n + 1 + 1 + 1 + 1) = some (true, 0, List.replicate 6 (.int 0)) := (e11 _ (by omega)).trans f10_5
  have f11_6 : h11 (n + 1 + 1 + 1 + 1 + 1) = some (true, 0, List.replicate 6 (.int 0)) := g11
  have w11 : ∀ q, q < n → q ≠ a → h11 q = h q := fun q hq na => (e11 q (by omega)).trans (w10 q hq na)
  refine sx_o (q := a) (o := (false, 9, [.int 0, .ref n, .ref (n + 1), .ref (n + 1 + 1), .ref (n + 1 + 1 + 1), .ref (n + 1 + 1 + 1 + 1), .ref (n + 1 + 1 + 1 + 1 + 1), .null, .null, .null, .null, .double FP.dconst0, .null, .null, .null, .null, .null, .null, .null, .null, .null, .null, .null, .null, .int 0, .int 0])) (fun Z k => sh_putF (k := 6) dc_Mod_init_49 f11_0 rfl (by decide) wd_868 rfl rfl rfl pd_AI rfl rfl k) ?_
  intro h12 g12 e12
  have f12_1 : h12 n = some (true, 3, List.replicate 6 (.int 0)) := (e12 _ (by omega)).trans f11_1
  have f12_2 : h12 (n + 1) = some (true, 3, List.replicate 6 (.int 0)) := (e12 _ (by omega)).trans f11_2
  have f12_3 : h12 (n + 1 + 1) = some (true, 2, List.replicate 6 (.double FP.dconst0)) := (e12 _ (by omega)).trans f11_3
  have f12_4 : h12 (n + 1 + 1 + 1) = some (true, 0, List.replicate 6 (.int 0)) := (e12 _ (by omega)).trans f11_4
  have f12_5 : h12 (n + 1 + 1 + 1 + 1) = some (true, 0, List.replicate 6 (.int 0)) := (e12 _ (by omega)).trans f11_5
  have f12_6 : h12 (n + 1 + 1 + 1 + 1 + 1) = some (true, 0, List.replicate 6 (.int 0)) := (e12 _ (by omega)).trans f11_6
  have f12_0 : h12 a = some (false, 9, [.int 0, .ref n, .ref (n + 1), .ref (n + 1 + 1), .ref (n + 1 + 1 + 1), .ref (n + 1 + 1 + 1 + 1), .ref (n + 1 + 1 + 1 + 1 + 1), .null, .null, .null, .null, .double FP.dconst0, .null, .null, .null, .null, .null, .null, .null, .null, .null, .null, .null, .null, .int 0, .int 0]) := g12
  have w12 : ∀ q, q < n → q ≠ a → h12 q = h q := fun q hq na => (e12 q (by omega)).trans (w11 q hq na)
  refine sx_p (fun Z k => sh_aload_n dc_Mod_init_52 rfl rfl k) ?_
  refine sx_p (fun Z k => sh_bipush (v := 6) dc_Mod_init_53 (by decide) k) ?_
  refine sx_n (o := (true, 2, List.replicate 6 (.double FP.dconst0))) (fun Z k => sh_newa (N := 6) dc_Mod_init_55 rfl (ti := 2) rfl (fun U cA q => q) wd_942 (by decide) (by decide) (by decide) (by decide) (by decide) k) ?_
  intro h13 g13 e13
  have f13_0 : h13 a = some (false, 9, [.int 0, .ref n, .ref (n + 1), .ref (n + 1 + 1), .ref (n + 1 + 1 + 1), .ref (n + 1 + 1 + 1 + 1), .ref (n + 1 + 1 + 1 + 1 + 1), .null, .null, .null, .null, .double FP.dconst0, .null, .null, .null, .null, .null, .null, .null, .null, .null, .null, .null, .null, .int 0, .int 0]) := (e13 _ (by omega)).trans f12_0
  have f13_1 : h13 n = some (true, 3, List.replicate 6 (.int 0)) := (e13 _ (by omega)).trans f12_1
  have f13_2 : h13 (n + 1) = some (true, 3, List.replicate 6 (.int 0)) := (e13 _ (by omega)).trans f12_2
  have f13_3 : h13 (n + 1 + 1) = some (true, 2, List.replicate 6 (.double FP.dconst0)) := (e13 _ (by omega)).trans f12_3
  have f13_4 : h13 (n + 1 + 1 + 1) = some (true, 0, List.replicate 6 (.int 0)) := (e13 _ (by omega)).trans f12_4
  have f13_5 : h13 (n + 1 + 1 + 1 + 1) = some (true, 0, List.replicate 6 (.int 0)) := (e13 _ (by omega)).trans f12_5
  have f13_6 : h13 (n + 1 + 1 + 1 + 1 + 1) = some (true, 0, List.replicate 6 (.int 0)) := (e13 _ (by omega)).trans f12_6
  have f13_7 : h13 (n + 1 + 1 + 1 + 1 + 1 + 1) = some (true, 2, List.replicate 6 (.double FP.dconst0)) := g13
  have w13 : ∀ q, q < n → q ≠ a → h13 q = h q := fun q hq na => (e13 q (by omega)).trans (w12 q hq na)
  refine sx_o (q := a) (o := (false, 9, [.int 0, .ref n, .ref (n + 1), .ref (n + 1 + 1), .ref (n + 1 + 1 + 1), .ref (n + 1 + 1 + 1 + 1), .ref (n + 1 + 1 + 1 + 1 + 1), .ref (n + 1 + 1 + 1 + 1 + 1 + 1), .null, .null, .null, .double FP.dconst0, .null, .null, .null, .null, .null, .null, .null, .null, .null, .null, .null, .null, .int 0, .int 0])) (fun Z k => sh_putF (k := 7) dc_Mod_init_57 f13_0 rfl (by decide) wd_869 rfl rfl rfl pd_AD rfl rfl k) ?_
  intro h14 g14 e14
  have f14_1 : h14 n = some (true, 3, List.replicate 6 (.int 0)) := (e14 _ (by omega)).trans f13_1
  have f14_2 : h14 (n + 1) = some (true, 3, List.replicate 6 (.int 0)) := (e14 _ (by omega)).trans f13_2
  have f14_3 : h14 (n + 1 + 1) = some (true, 2, List.replicate 6 (.double FP.dconst0)) := (e14 _ (by omega)).trans f13_3
  have f14_4 : h14 (n + 1 + 1 + 1) = some (true, 0, List.replicate 6 (.int 0)) := (e14 _ (by omega)).trans f13_4
  have f14_5 : h14 (n + 1 + 1 + 1 + 1) = some (true, 0, List.replicate 6 (.int 0)) := (e14 _ (by omega)).trans f13_5
  have f14_6 : h14 (n + 1 + 1 + 1 + 1 + 1) = some (true, 0, List.replicate 6 (.int 0)) := (e14 _ (by omega)).trans f13_6
  have f14_7 : h14 (n + 1 + 1 + 1 + 1 + 1 + 1) = some (true, 2, List.replicate 6 (.double FP.dconst0)) := (e14 _ (by omega)).trans f13_7
  have f14_0 : h14 a = some (false, 9, [.int 0, .ref n, .ref (n + 1), .ref (n + 1 + 1), .ref (n + 1 + 1 + 1), .ref (n + 1 + 1 + 1 + 1), .ref (n + 1 + 1 + 1 + 1 + 1), .ref (n + 1 + 1 + 1 + 1 + 1 + 1), .null, .null, .null, .double FP.dconst0, .null, .null, .null, .null, .null, .null, .null, .null, .null, .null, .null, .null, .int 0, .int 0]) := g14
  have w14 : ∀ q, q < n → q ≠ a → h14 q = h q := fun q hq na => (e14 q (by omega)).trans (w13 q hq na)
  refine sx_p (fun Z k => sh_aload_n dc_Mod_init_60 rfl rfl k) ?_
  refine sx_p (fun Z k => sh_bipush (v := 6) dc_Mod_init_61 (by decide) k) ?_
  refine sx_n (o := (true, 2, List.replicate 6 (.double FP.dconst0))) (fun Z k => sh_newa (N := 6) dc_Mod_init_63 rfl (ti := 2) rfl (fun U cA q => q) wd_942 (by decide) (by decide) (by decide) (by decide) (by decide) k) ?_
  intro h15 g15 e15
  have f15_0 : h15 a = some (false, 9, [.int 0, .ref n, .ref (n + 1), .ref (n + 1 + 1), .ref (n + 1 + 1 + 1), .ref (n + 1 + 1 + 1 + 1), .ref (n + 1 + 1 + 1 + 1 + 1), .ref (n + 1 + 1 + 1 + 1 + 1 + 1), .null, .null, .null, .double FP.dconst0, .null, .null, .null, .null, .null, .null, .null, .null, .null, .null, .null, .null, .int 0, .int 0]) := (e15 _ (by omega)).trans f14_0
  have f15_1 : h15 n = some (true, 3, List.replicate 6 (.int 0)) := (e15 _ (by omega)).trans f14_1
  have f15_2 : h15 (n + 1) = some (true, 3, List.replicate 6 (.int 0)) := (e15 _ (by omega)).trans f14_2
  have f15_3 : h15 (n + 1 + 1) = some (true, 2, List.replicate 6 (.double FP.dconst0)) := (e15 _ (by omega)).trans f14_3
  have f15_4 : h15 (n + 1 + 1 + 1) = some (true, 0, List.replicate 6 (.int 0)) := (e15 _ (by omega)).trans f14_4
  have f15_5 : h15 (n + 1 + 1 + 1 + 1) = some (true, 0, List.replicate 6 (.int 0)) := (e15 _ (by omega)).trans f14_5
  have f15_6 : h15 (n + 1 + 1 + 1 + 1 + 1) = some (true, 0, List.replicate 6 (.int 0)) := (e15 _ (by omega)).trans f14_6
  have f15_7 : h15 (n + 1 + 1 + 1 + 1 + 1 + 1) = some (true, 2, List.replicate 6 (.double FP.dconst0)) := (e15 _ (by omega)).trans f14_7
  have f15_8 : h15 (n + 1 + 1 + 1 + 1 + 1 + 1 + 1) = some (true, 2, List.replicate 6 (.double FP.dconst0)) := g15
  have w15 : ∀ q, q < n → q ≠ a → h15 q = h q := fun q hq na => (e15 q (by omega)).trans (w14 q hq na)
  refine sx_o (q := a) (o := (false, 9, [.int 0, .ref n, .ref (n + 1), .ref (n + 1 + 1), .ref (n + 1 + 1 + 1), .ref (n + 1 + 1 + 1 + 1), .ref (n + 1 + 1 + 1 + 1 + 1), .ref (n + 1 + 1 + 1 + 1 + 1 + 1), .ref (n + 1 + 1 + 1 + 1 + 1 + 1 + 1), .null, .null, .double FP.dconst0, .null, .null, .null, .null, .null, .null, .null, .null, .null, .null, .null, .null, .int 0, .int 0])) (fun Z k => sh_putF (k := 8) dc_Mod_init_65 f15_0 rfl (by decide) wd_870 rfl rfl rfl pd_AD rfl rfl k) ?_
  intro h16 g16 e16
  have f16_1 : h16 n = some (true, 3, List.replicate 6 (.int 0)) := (e16 _ (by omega)).trans f15_1
  have f16_2 : h16 (n + 1) = some (true, 3, List.replicate 6 (.int 0)) := (e16 _ (by omega)).trans f15_2
  have f16_3 : h16 (n + 1 + 1) = some (true, 2, List.replicate 6 (.double FP.dconst0)) := (e16 _ (by omega)).trans f15_3
  have f16_4 : h16 (n + 1 + 1 + 1) = some (true, 0, List.replicate 6 (.int 0)) := (e16 _ (by omega)).trans f15_4
  have f16_5 : h16 (n + 1 + 1 + 1 + 1) = some (true, 0, List.replicate 6 (.int 0)) := (e16 _ (by omega)).trans f15_5
  have f16_6 : h16 (n + 1 + 1 + 1 + 1 + 1) = some (true, 0, List.replicate 6 (.int 0)) := (e16 _ (by omega)).trans f15_6
  have f16_7 : h16 (n + 1 + 1 + 1 + 1 + 1 + 1) = some (true, 2, List.replicate 6 (.double FP.dconst0)) := (e16 _ (by omega)).trans f15_7
  have f16_8 : h16 (n + 1 + 1 + 1 + 1 + 1 + 1 + 1) = some (true, 2, List.replicate 6 (.double FP.dconst0)) := (e16 _ (by omega)).trans f15_8
  have f16_0 : h16 a = some (false, 9, [.int 0, .ref n, .ref (n + 1), .ref (n + 1 + 1), .ref (n + 1 + 1 + 1), .ref (n + 1 + 1 + 1 + 1), .ref (n + 1 + 1 + 1 + 1 + 1), .ref (n + 1 + 1 + 1 + 1 + 1 + 1), .ref (n + 1 + 1 + 1 + 1 + 1 + 1 + 1), .null, .null, .double FP.dconst0, .null, .null, .null, .null, .null, .null, .null, .null, .null, .null, .null, .null, .int 0, .int 0]) := g16
  have w16 : ∀ q, q < n → q ≠ a → h16 q = h q := fun q hq na => (e16 q (by omega)).trans (w15 q hq na)
  refine sx_p (fun Z k => sh_aload_n dc_Mod_init_68 rfl rfl k) ?_
  refine sx_p (fun Z k => sh_bipush (v := 6) dc_Mod_init_69 (by decide) k) ?_
  refine sx_n (o := (true, 0, List.replicate 6 (.int 0))) (fun Z k => sh_newa (N := 6) dc_Mod_init_71 rfl (ti := 0) rfl (fun U cA q => q) wd_159 (by decide) (by decide) (by decide) (by decide) (by decide) k) ?_
  intro h17 g17 e17
  have f17_0 : h17 a = some (false, 9, [.int 0, .ref n, .ref (n + 1), .ref (n + 1 + 1), .ref (n + 1 + 1 + 1), .ref (n + 1 + 1 + 1 + 1), .ref (n + 1 + 1 + 1 + 1 + 1), .ref (n + 1 + 1 + 1 + 1 + 1 + 1), .ref (n + 1 + 1 + 1 + 1 + 1 + 1 + 1), .null, .null, .double FP.dconst0, .null, .null, .null, .null, .null, .null, .null, .null, .null, .null, .null, .null, .int 0, .int 0]) := (e17 _ (by omega)).trans f16_0
  have f17_1 : h17 n = some (true, 3, List.replicate 6 (.int 0)) := (e17 _ (by omega)).trans f16_1
  have f17_2 : h17 (n + 1) = some (true, 3, List.replicate 6 (.int 0)) := (e17 _ (by omega)).trans f16_2
  have f17_3 : h17 (n + 1 + 1) = some (true, 2, List.replicate 6 (.double FP.dconst0)) := (e17 _ (by omega)).trans f16_3
  have f17_4 : h17 (n + 1 + 1 + 1) = some (true, 0, List.replicate 6 (.int 0)) := (e17 _ (by omega)).trans f16_4
  have f17_5 : h17 (n + 1 + 1 + 1 + 1) = some (true, 0, List.replicate 6 (.int 0)) := (e17 _ (by omega)).trans f16_5
  have f17_6 : h17 (n + 1 + 1 + 1 + 1 + 1) = some (true, 0, List.replicate 6 (.int 0)) := (e17 _ (by omega)).trans f16_6
  have f17_7 : h17 (n + 1 + 1 + 1 + 1 + 1 + 1) = some (true, 2, List.replicate 6 (.double FP.dconst0)) := (e17 _ (by omega)).trans f16_7
  have f17_8 : h17 (n + 1 + 1 + 1 + 1 + 1 + 1 + 1) = some (true, 2, List.replicate 6 (.double FP.dconst0)) := (e17 _ (by omega)).trans f16_8
  have f17_9 : h17 (n + 1 + 1 + 1 + 1 + 1 + 1 + 1 + 1) = some (true, 0, List.replicate 6 (.int 0)) := g17
  have w17 : ∀ q, q < n → q ≠ a → h17 q = h q := fun q hq na => (e17 q (by omega)).trans (w16 q hq na)
  refine sx_o (q := a) (o := (false, 9, [.int 0, .ref n, .ref (n + 1), .ref (n + 1 + 1), .ref (n + 1 + 1 + 1), .ref (n + 1 + 1 + 1 + 1), .ref (n + 1 + 1 + 1 + 1 + 1), .ref (n + 1 + 1 + 1 + 1 + 1 + 1), .ref (n + 1 + 1 + 1 + 1 + 1 + 1 + 1), .ref (n + 1 + 1 + 1 + 1 + 1 + 1 + 1 + 1), .null, .double FP.dconst0, .null, .null, .null, .null, .null, .null, .null, .null, .null, .null, .null, .null, .int 0, .int 0])) (fun Z k => sh_putF (k := 9) dc_Mod_init_73 f17_0 rfl (by decide) wd_871 rfl rfl rfl pd_AI rfl rfl k) ?_
  intro h18 g18 e18
  have f18_1 : h18 n = some (true, 3, List.replicate 6 (.int 0)) := (e18 _ (by omega)).trans f17_1
  have f18_2 : h18 (n + 1) = some (true, 3, List.replicate 6 (.int 0)) := (e18 _ (by omega)).trans f17_2
  have f18_3 : h18 (n + 1 + 1) = some (true, 2, List.replicate 6 (.double FP.dconst0)) := (e18 _ (by omega)).trans f17_3
  have f18_4 : h18 (n + 1 + 1 + 1) = some (true, 0, List.replicate 6 (.int 0)) := (e18 _ (by omega)).trans f17_4
  have f18_5 : h18 (n + 1 + 1 + 1 + 1) = some (true, 0, List.replicate 6 (.int 0)) := (e18 _ (by omega)).trans f17_5
  have f18_6 : h18 (n + 1 + 1 + 1 + 1 + 1) = some (true, 0, List.replicate 6 (.int 0)) := (e18 _ (by omega)).trans f17_6
  have f18_7 : h18 (n + 1 + 1 + 1 + 1 + 1 + 1) = some (true, 2, List.replicate 6 (.double FP.dconst0)) := (e18 _ (by omega)).trans f17_7
  have f18_8 : h18 (n + 1 + 1 + 1 + 1 + 1 + 1 + 1) = some (true, 2, List.replicate 6 (.double FP.dconst0)) := (e18 _ (by omega)).trans f17_8
  have f18_9 : h18 (n + 1 + 1 + 1 + 1 + 1 + 1 + 1 + 1) = some (true, 0, List.replicate 6 (.int 0)) := (e18 _ (by omega)).trans f17_9
  have f18_0 : h18 a = some (false, 9, [.int 0, .ref n, .ref (n + 1), .ref (n + 1 + 1), .ref (n + 1 + 1 + 1), .ref (n + 1 + 1 + 1 + 1), .ref (n + 1 + 1 + 1 + 1 + 1), .ref (n + 1 + 1 + 1 + 1 + 1 + 1), .ref (n + 1 + 1 + 1 + 1 + 1 + 1 + 1), .ref (n + 1 + 1 + 1 + 1 + 1 + 1 + 1 + 1), .null, .double FP.dconst0, .null, .null, .null, .null, .null, .null, .null, .null, .null, .null, .null, .null, .int 0, .int 0]) := g18
  have w18 : ∀ q, q < n → q ≠ a → h18 q = h q := fun q hq na => (e18 q (by omega)).trans (w17 q hq na)
  refine sx_p (fun Z k => sh_aload_n dc_Mod_init_76 rfl rfl k) ?_
  refine sx_p (fun Z k => sh_bipush (v := 6) dc_Mod_init_77 (by decide) k) ?_
  refine sx_n (o := (true, 0, List.replicate 6 (.int 0))) (fun Z k => sh_newa (N := 6) dc_Mod_init_79 rfl (ti := 0) rfl (fun U cA q => q) wd_159 (by decide) (by decide) (by decide) (by decide) (by decide) k) ?_
  intro h19 g19 e19
  have f19_0 : h19 a = some (false, 9, [.int 0, .ref n, .ref (n + 1), .ref (n + 1 + 1), .ref (n + 1 + 1 + 1), .ref (n + 1 + 1 + 1 + 1), .ref (n + 1 + 1 + 1 + 1 + 1), .ref (n + 1 + 1 + 1 + 1 + 1 + 1), .ref (n + 1 + 1 + 1 + 1 + 1 + 1 + 1), .ref (n + 1 + 1 + 1 + 1 + 1 + 1 + 1 + 1), .null, .double FP.dconst0, .null, .null, .null, .null, .null, .null, .null, .null, .null, .null, .null, .null, .int 0, .int 0]) := (e19 _ (by omega)).trans f18_0
  have f19_1 : h19 n = some (true, 3, List.replicate 6 (.int 0)) := (e19 _ (by omega)).trans f18_1
  have f19_2 : h19 (n + 1) = some (true, 3, List.replicate 6 (.int 0)) := (e19 _ (by omega)).trans f18_2
  have f19_3 : h19 (n + 1 + 1) = some (true, 2, List.replicate 6 (.double FP.dconst0)) := (e19 _ (by omega)).trans f18_3
  have f19_4 : h19 (n + 1 + 1 + 1) = some (true, 0, List.replicate 6 (.int 0)) := (e19 _ (by omega)).trans f18_4
  have f19_5 : h19 (n + 1 + 1 + 1 + 1) = some (true, 0, List.replicate 6 (.int 0)) := (e19 _ (by omega)).trans f18_5
  have f19_6 : h19 (n + 1 + 1 + 1 + 1 + 1) = some (true, 0, List.replicate 6 (.int 0)) := (e19 _ (by omega)).trans f18_6
  have f19_7 : h19 (n + 1 + 1 + 1 + 1 + 1 + 1) = some (true, 2, List.replicate 6 (.double FP.dconst0)) := (e19 _ (by omega)).trans f18_7
  have f19_8 : h19 (n + 1 + 1 + 1 + 1 + 1 + 1 + 1) = some (true, 2, List.replicate 6 (.double FP.dconst0)) := (e19 _ (by omega)).trans f18_8
  have f19_9 : h19 (n + 1 + 1 + 1 + 1 + 1 + 1 + 1 + 1) = some (true, 0, List.replicate 6 (.int 0)) := (e19 _ (by omega)).trans f18_9
  have f19_10 : h19 (n + 1 + 1 + 1 + 1 + 1 + 1 + 1 + 1 + 1) = some (true, 0, List.replicate 6 (.int 0)) := g19
  have w19 : ∀ q, q < n → q ≠ a → h19 q = h q := fun q hq na => (e19 q (by omega)).trans (w18 q hq na)
  refine sx_o (q := a) (o := (false, 9, [.int 0, .ref n, .ref (n + 1), .ref (n + 1 + 1), .ref (n + 1 + 1 + 1), .ref (n + 1 + 1 + 1 + 1), .ref (n + 1 + 1 + 1 + 1 + 1), .ref (n + 1 + 1 + 1 + 1 + 1 + 1), .ref (n + 1 + 1 + 1 + 1 + 1 + 1 + 1), .ref (n + 1 + 1 + 1 + 1 + 1 + 1 + 1 + 1), .ref (n + 1 + 1 + 1 + 1 + 1 + 1 + 1 + 1 + 1), .double FP.dconst0, .null, .null, .null, .null, .null, .null, .null, .null, .null, .null, .null, .null, .int 0, .int 0])) (fun Z k => sh_putF (k := 10) dc_Mod_init_81 f19_0 rfl (by decide) wd_872 rfl rfl rfl pd_AI rfl rfl k) ?_
  intro h20 g20 e20
  have f20_1 : h20 n = some (true, 3, List.replicate 6 (.int 0)) := (e20 _ (by omega)).trans f19_1
  have f20_2 : h20 (n + 1) = some (true, 3, List.replicate 6 (.int 0)) := (e20 _ (by omega)).trans f19_2
  have f20_3 : h20 (n + 1 + 1) = some (true, 2, List.replicate 6 (.double FP.dconst0)) := (e20 _ (by omega)).trans f19_3
  have f20_4 : h20 (n + 1 + 1 + 1) = some (true, 0, List.replicate 6 (.int 0)) := (e20 _ (by omega)).trans f19_4
  have f20_5 : h20 (n + 1 + 1 + 1 + 1) = some (true, 0, List.replicate 6 (.int 0)) := (e20 _ (by omega)).trans f19_5
  have f20_6 : h20 (n + 1 + 1 + 1 + 1 + 1) = some (true, 0, List.replicate 6 (.int 0)) := (e20 _ (by omega)).trans f19_6
  have f20_7 : h20 (n + 1 + 1 + 1 + 1 + 1 + 1) = some (true, 2, List.replicate 6 (.double FP.dconst0)) := (e20 _ (by omega)).trans f19_7
  have f20_8 : h20 (n + 1 + 1 + 1 + 1 + 1 + 1 + 1) = some (true, 2, List.replicate 6 (.double FP.dconst0)) := (e20 _ (by omega)).trans f19_8
  have f20_9 : h20 (n + 1 + 1 + 1 + 1 + 1 + 1 + 1 + 1) = some (true, 0, List.replicate 6 (.int 0)) := (e20 _ (by omega)).trans f19_9
  have f20_10 : h20 (n + 1 + 1 + 1 + 1 + 1 + 1 + 1 + 1 + 1) = some (true, 0, List.replicate 6 (.int 0)) := (e20 _ (by omega)).trans f19_10
  have f20_0 : h20 a = some (false, 9, [.int 0, .ref n, .ref (n + 1), .ref (n + 1 + 1), .ref (n + 1 + 1 + 1), .ref (n + 1 + 1 + 1 + 1), .ref (n + 1 + 1 + 1 + 1 + 1), .ref (n + 1 + 1 + 1 + 1 + 1 + 1), .ref (n + 1 + 1 + 1 + 1 + 1 + 1 + 1), .ref (n + 1 + 1 + 1 + 1 + 1 + 1 + 1 + 1), .ref (n + 1 + 1 + 1 + 1 + 1 + 1 + 1 + 1 + 1), .double FP.dconst0, .null, .null, .null, .null, .null, .null, .null, .null, .null, .null, .null, .null, .int 0, .int 0]) := g20
  have w20 : ∀ q, q < n → q ≠ a → h20 q = h q := fun q hq na => (e20 q (by omega)).trans (w19 q hq na)
  refine sx_p (fun Z k => sh_aload_n dc_Mod_init_84 rfl rfl k) ?_
  refine sx_p (fun Z k => sh_bipush (v := 8) dc_Mod_init_85 (by decide) k) ?_
  refine sx_n (o := (true, 0, List.replicate 8 (.int 0))) (fun Z k => sh_newa (N := 8) dc_Mod_init_87 rfl (ti := 0) rfl (fun U cA q => q) wd_159 (by decide) (by decide) (by decide) (by decide) (by decide) k) ?_
  intro h21 g21 e21
  have f21_0 : h21 a = some (false, 9, [.int 0, .ref n, .ref (n + 1), .ref (n + 1 + 1), .ref (n + 1 + 1 + 1), .ref (n + 1 + 1 + 1 + 1), .ref (n + 1 + 1 + 1 + 1 + 1), .ref (n + 1 + 1 + 1 + 1 + 1 + 1), .ref (n + 1 + 1 + 1 + 1 + 1 + 1 + 1), .ref (n + 1 + 1 + 1 + 1 + 1 + 1 + 1 + 1), .ref (n + 1 + 1 + 1 + 1 + 1 + 1 + 1 + 1 + 1), .double FP.dconst0, .null, .null, .null, .null, .null, .null, .null, .null, .null, .null, .null, .null, .int 0, .int 0]) := (e21 _ (by omega)).trans f20_0
  have f21_1 : h21 n = some (true, 3, List.replicate 6 (.int 0)) := (e21 _ (by omega)).trans f20_1
  have f21_2 : h21 (n + 1) = some (true, 3, List.replicate 6 (.int 0)) := (e21 _ (by omega)).trans f20_2
  have f21_3 : h21 (n + 1 + 1) = some (true, 2, List.replicate 6 (.double FP.dconst0)) := (e21 _ (by omega)).trans f20_3
  have f21_4 : h21 (n + 1 + 1 + 1) = some (true, 0, List.replicate 6 (.int 0)) := (e21 _ (by omega)).trans f20_4
  have f21_5 : h21 (n + 1 + 1 + 1 + 1) = some (true, 0, List.replicate 6 (.int 0)) := (e21 _ (by omega)).trans f20_5
  have f21_6 : h21 (n + 1 + 1 + 1 + 1 + 1) = some (true, 0, List.replicate 6 (.int 0)) := (e21 _ (by omega)).trans f20_6
  have f21_7 : h21 (n + 1 + 1 + 1 + 1 + 1 + 1) = some (true, 2, List.replicate 6 (.double FP.dconst0)) := (e21 _ (by omega)).trans f20_7
  have f21_8 : h21 (n + 1 + 1 + 1 + 1 + 1 + 1 + 1) = some (true, 2, List.replicate 6 (.double FP.dconst0)) := (e21 _ (by omega)).trans f20_8
  have f21_9 : h21 (n + 1 + 1 + 1 + 1 + 1 + 1 + 1 + 1) = some (true, 0, List.replicate 6 (.int 0)) := (e21 _ (by omega)).trans f20_9
  have f21_10 : h21 (n + 1 + 1 + 1 + 1 + 1 + 1 + 1 + 1 + 1) = some (true, 0, List.replicate 6 (.int 0)) := (e21 _ (by omega)).trans f20_10
  have f21_11 : h21 (n + 1 + 1 + 1 + 1 + 1 + 1 + 1 + 1 + 1 + 1) = some (true, 0, List.replicate 8 (.int 0)) := g21
  have w21 : ∀ q, q < n → q ≠ a → h21 q = h q := fun q hq na => (e21 q (by omega)).trans (w20 q hq na)
  refine sx_o (q := a) (o := (false, 9, [.int 0, .ref n, .ref (n + 1), .ref (n + 1 + 1), .ref (n + 1 + 1 + 1), .ref (n + 1 + 1 + 1 + 1), .ref (n + 1 + 1 + 1 + 1 + 1), .ref (n + 1 + 1 + 1 + 1 + 1 + 1), .ref (n + 1 + 1 + 1 + 1 + 1 + 1 + 1), .ref (n + 1 + 1 + 1 + 1 + 1 + 1 + 1 + 1), .ref (n + 1 + 1 + 1 + 1 + 1 + 1 + 1 + 1 + 1), .double FP.dconst0, .ref (n + 1 + 1 + 1 + 1 + 1 + 1 + 1 + 1 + 1 + 1), .null, .null, .null, .null, .null, .null, .null, .null, .null, .null, .null, .int 0, .int 0])) (fun Z k => sh_putF (k := 12) dc_Mod_init_89 f21_0 rfl (by decide) wd_874 rfl rfl rfl pd_AI rfl rfl k) ?_
  intro h22 g22 e22
  have f22_1 : h22 n = some (true, 3, List.replicate 6 (.int 0)) := (e22 _ (by omega)).trans f21_1
  have f22_2 : h22 (n + 1) = some (true, 3, List.replicate 6 (.int 0)) := (e22 _ (by omega)).trans f21_2
  have f22_3 : h22 (n + 1 + 1) = some (true, 2, List.replicate 6 (.double FP.dconst0)) := (e22 _ (by omega)).trans f21_3
  have f22_4 : h22 (n + 1 + 1 + 1) = some (true, 0, List.replicate 6 (.int 0)) := (e22 _ (by omega)).trans f21_4
  have f22_5 : h22 (n + 1 + 1 + 1 + 1) = some (true, 0, List.replicate 6 (.int 0)) := (e22 _ (by omega)).trans f21_5
  have f22_6 : h22 (n + 1 + 1 + 1 + 1 + 1) = some (true, 0, List.replicate 6 (.int 0)) := (e22 _ (by omega)).trans f21_6
  have f22_7 : h22 (n + 1 + 1 + 1 + 1 + 1 + 1) = some (true, 2, List.replicate 6 (.double FP.dconst0)) := (e22 _ (by omega)).trans f21_7
  have f22_8 : h22 (n + 1 + 1 + 1 + 1 + 1 + 1 + 1) = some (true, 2, List.replicate 6 (.double FP.dconst0)) := (e22 _ (by omega)).trans f21_8
  have f22_9 : h22 (n + 1 + 1 + 1 + 1 + 1 + 1 + 1 + 1) = some (true, 0, List.replicate 6 (.int 0)) := (e22 _ (by omega)).trans f21_9
  have f22_10 : h22 (n + 1 + 1 + 1 + 1 + 1 + 1 + 1 + 1 + 1) = some (true, 0, List.replicate 6 (.int 0)) := (e22 _ (by omega)).trans f21_10
  have f22_11 : h22 (n + 1 + 1 + 1 + 1 + 1 + 1 + 1 + 1 + 1 + 1) = some (true, 0, List.replicate 8 (.int 0)) := (e22 _ (by omega)).trans f21_11
  have f22_0 : h22 a = some (false, 9, [.int 0, .ref n, .ref (n + 1), .ref (n + 1 + 1), .ref (n + 1 + 1 + 1), .ref (n + 1 + 1 + 1 + 1), .ref (n + 1 + 1 + 1 + 1 + 1), .ref (n + 1 + 1 + 1 + 1 + 1 + 1), .ref (n + 1 + 1 + 1 + 1 + 1 + 1 + 1), .ref (n + 1 + 1 + 1 + 1 + 1 + 1 + 1 + 1), .ref (n + 1 + 1 + 1 + 1 + 1 + 1 + 1 + 1 + 1), .double FP.dconst0, .ref (n + 1 + 1 + 1 + 1 + 1 + 1 + 1 + 1 + 1 + 1), .null, .null, .null, .null, .null, .null, .null, .null, .null, .null, .null, .int 0, .int 0]) := g22
  have w22 : ∀ q, q < n → q ≠ a → h22 q = h q := fun q hq na => (e22 q (by omega)).trans (w21 q hq na)
  refine sx_p (fun Z k => sh_aload_n dc_Mod_init_92 rfl rfl k) ?_
  refine sx_p (fun Z k => sh_bipush (v := 8) dc_Mod_init_93 (by decide) k) ?_
  refine sx_n (o := (true, 0, List.replicate 8 (.int 0))) (fun Z k => sh_newa (N := 8) dc_Mod_init_95 rfl (ti := 0) rfl (fun U cA q => q) wd_159 (by decide) (by decide) (by decide) (by decide) (by decide) k) ?_
  intro h23 g23 e23
  have f23_0 : h23 a = some (false, 9, [.int 0, .ref n, .ref (n + 1), .ref (n + 1 + 1), .ref (n + 1 + 1 + 1), .ref (n + 1 + 1 + 1 + 1), .ref (n + 1 + 1 + 1 + 1 + 1), .ref (n + 1 + 1 + 1 + 1 + 1 + 1), .ref (n + 1 + 1 + 1 + 1 + 1 + 1 + 1), .ref (n + 1 + 1 + 1 + 1 + 1 + 1 + 1 + 1), .ref (n + 1 + 1 + 1 + 1 + 1 + 1 + 1 + 1 + 1), .double FP.dconst0, .ref (n + 1 + 1 + 1 + 1 + 1 + 1 + 1 + 1 + 1 + 1), .null, .null, .null, .null, .null, .null, .null, .null, .null, .null, .null, .int 0, .int 0]) := (e23 _ (by omega)).trans f22_0
  have f23_1 : h23 n = some (true, 3, List.replicate 6 (.int 0)) := (e23 _ (by omega)).trans f22_1
  have f23_2 : h23 (n + 1) = some (true, 3, List.replicate 6 (.int 0)) := (e23 _ (by omega)).trans f22_2
  have f23_3 : h23 (n + 1 + 1) = some (true, 2, List.replicate 6 (.double FP.dconst0)) := (e23 _ (by omega)).trans f22_3
  have f23_4 : h23 (n + 1 + 1 + 1) = some (true, 0, List.replicate 6 (.int 0)) := (e23 _ (by omega)).trans f22_4
  have f23_5 : h23 (n + 1 + 1 + 1 + 1) = some (true, 0, List.replicate 6 (.int 0)) := (e23 _ (by omega)).trans f22_5
  have f23_6 : h23 (n + 1 + 1 + 1 + 1 + 1) = some (true, 0, List.replicate 6 (.int 0)) := (e23 _ (by omega)).trans f22_6
  have f23_7 : h23 (n + 1 + 1 + 1 + 1 + 1 + 1) = some (true, 2, List.replicate 6 (.double FP.dconst0)) := (e23 _ (by omega)).trans f22_7
  have f23_8 : h23 (n + 1 + 1 + 1 + 1 + 1 + 1 + 1) = some (true, 2, List.replicate 6 (.double FP.dconst0)) := (e23 _ (by omega)).trans f22_8
  have f23_9 : h23 (n + 1 + 1 + 1 + 1 + 1 + 1 + 1 + 1) = some (true, 0, List.replicate 6 (.int 0)) := (e23 _ (by omega)).trans f22_9
  have f23_10 : h23 (n + 1 + 1 + 1 + 1 + 1 + 1 + 1 + 1 + 1) = some (true, 0, List.replicate 6 (.int 0)) := (e23 _ (by omega)).trans f22_10
  have f23_11 : h23 (n + 1 + 1 + 1 + 1 + 1 + 1 + 1 + 1 + 1 + 1) = some (true, 0, List.replicate 8 (.int 0)) := (e23 _ (by omega)).trans f22_11
  have f23_12 : h23 (n + 1 + 1 + 1 + 1 + 1 + 1 + 1 + 1 + 1 + 1 + 1) = some (true, 0, List.replicate 8 (.int 0)) := g23
  have w23 : ∀ q, q < n → q ≠ a → h23 q = h q := fun q hq na => (e23 q (by omega)).trans (w22 q hq na)
  refine sx_o (q := a) (o := (false, 9, [.int 0, .ref n, .ref (n + 1), .ref (n + 1 + 1), .ref (n + 1 + 1 + 1), .ref (n + 1 + 1 + 1 + 1), .ref (n + 1 + 1 + 1 + 1 + 1), .ref (n + 1 + 1 + 1 + 1 + 1 + 1), .ref (n + 1 + 1 + 1 + 1 + 1 + 1 + 1), .ref (n + 1 + 1 + 1 + 1 + 1 + 1 + 1 + 1), .ref (n + 1 + 1 + 1 + 1 + 1 + 1 + 1 + 1 + 1), .double FP.dconst0, .ref (n + 1 + 1 + 1 + 1 + 1 + 1 + 1 + 1 + 1 + 1), .ref (n + 1 + 1 + 1 + 1 + 1 + 1 + 1 + 1 + 1 + 1 + 1), .null, .null, .null, .null, .null, .null, .null, .null, .null, .null, .int 0, .int 0])) (fun Z k => sh_putF (k := 13) dc_Mod_init_97 f23_0 rfl (by decide) wd_875 rfl rfl rfl pd_AI rfl rfl k) ?_
  intro h24 g24 e24
  have f24_1 : h24 n = some (true, 3, List.replicate 6 (.int 0)) := (e24 _ (by omega)).trans f23_1
  have f24_2 : h24 (n + 1) = some (true, 3, List.replicate 6 (.int 0)) := (e24 _ (by omega)).trans f23_2
  have f24_3 : h24 (n + 1 + 1) = some (true, 2, List.replicate 6 (.double FP.dconst0)) := (e24 _ (by omega)).trans f23_3
  have f24_4 : h24 (n + 1 + 1 + 1) = some (true, 0, List.replicate 6 (.int 0)) := (e24 _ (by omega)).trans f23_4
  have f24_5 : h24 (n + 1 + 1 + 1 + 1) = some (true, 0, List.replicate 6 (.int 0)) := (e24 _ (by omega)).trans f23_5
  have f24_6 : h24 (n + 1 + 1 + 1 + 1 + 1) = some (true, 0, List.replicate 6 (.int 0)) := (e24 _ (by omega)).trans f23_6
  have f24_7 : h24 (n + 1 + 1 + 1 + 1 + 1 + 1) = some (true, 2, List.replicate 6 (.double FP.dconst0)) := (e24 _ (by omega)).trans f23_7
  have f24_8 : h24 (n + 1 + 1 + 1 + 1 + 1 + 1 + 1) = some (true, 2, List.replicate 6 (.double FP.dconst0)) := (e24 _ (by omega)).trans f23_8
  have f24_9 : h24 (n + 1 + 1 + 1 + 1 + 1 + 1 + 1 + 1) = some (true, 0, List.replicate 6 (.int 0)) := (e24 _ (by omega)).trans f23_9
  have f24_10 : h24 (n + 1 + 1 + 1 + 1 + 1 + 1 + 1 + 1 + 1) = some (true, 0, List.replicate 6 (.int 0)) := (e24 _ (by omega)).trans f23_10
  have f24_11 : h24 (n + 1 + 1 + 1 + 1 + 1 + 1 + 1 + 1 + 1 + 1) = some (true, 0, List.replicate 8 (.int 0)) := (e24 _ (by omega)).trans f23_11
  have f24_12 : h24 (n + 1 + 1 + 1 + 1 + 1 + 1 + 1 + 1 + 1 + 1 + 1) = some (true, 0, List.replicate 8 (.int 0)) := (e24 _ (by omega)).trans f23_12
  have f24_0 : h24 a = some (false, 9, [.int 0, .ref n, .ref (n + 1), .ref (n + 1 + 1), .ref (n + 1 + 1 + 1), .ref (n + 1 + 1 + 1 + 1), .ref (n + 1 + 1 + 1 + 1 + 1), .ref (n + 1 + 1 + 1 + 1 + 1 + 1), .ref (n + 1 + 1 + 1 + 1 + 1 + 1 + 1), .ref (n + 1 + 1 + 1 + 1 + 1 + 1 + 1 + 1), .ref (n + 1 + 1 + 1 + 1 + 1 + 1 + 1 + 1 + 1), .double FP.dconst0, .ref (n + 1 + 1 + 1 + 1 + 1 + 1 + 1 + 1 + 1 + 1), .ref (n + 1 + 1 + 1 + 1 + 1 + 1 + 1 + 1 + 1 + 1 + 1), .null, .null, .null, .null, .null, .null, .null, .null, .null, .null, .int 0, .int 0]) := g24
  have w24 : ∀ q, q < n → q ≠ a → h24 q = h q := fun q hq na => (e24 q (by omega)).trans (w23 q hq na)
  refine sx_p (fun Z k => sh_aload_n dc_Mod_init_100 rfl rfl k) ?_
  refine sx_p (fun Z k => sh_bipush (v := 8) dc_Mod_init_101 (by decide) k) ?_
  refine sx_n (o := (true, 0, List.replicate 8 (.int 0))) (fun Z k => sh_newa (N := 8) dc_Mod_init_103 rfl (ti := 0) rfl (fun U cA q => q) wd_159 (by decide) (by decide) (by decide) (by decide) (by decide) k) ?_
  intro h25 g25 e25
  have f25_0 : h25 a = some (false, 9, [.int 0, .ref n, .ref (n + 1), .ref (n + 1 + 1), .ref (n + 1 + 1 + 1), .ref (n + 1 + 1 + 1 + 1), .ref (n + 1 + 1 + 1 + 1 + 1), .ref (n + 1 + 1 + 1 + 1 + 1 + 1), .ref (n + 1 + 1 + 1 + 1 + 1 + 1 + 1), .ref (n + 1 + 1 + 1 + 1 + 1 + 1 + 1 + 1), .ref (n + 1 + 1 + 1 + 1 + 1 + 1 + 1 + 1 + 1), .double FP.dconst0, .ref (n + 1 + 1 + 1 + 1 + 1 + 1 + 1 + 1 + 1 + 1), .ref (n + 1 + 1 + 1 + 1 + 1 + 1 + 1 + 1 + 1 + 1 + 1), .null, .null, .null, .null, .null, .null, .null, .null, .null, .null, .int 0, .int 0]) := (e25 _ (by omega)).trans f24_0
  have f25_1 : h25 n = some (true, 3, List.replicate 6 (.int 0)) := (e25 _ (by omega)).trans f24_1
  have f25_2 : h25 (n + 1) = some (true, 3, List.replicate 6 (.int 0)) := (e25 _ (by omega)).trans f24_2
  have f25_3 : h25 (n + 1 + 1) = some (true, 2, List.replicate 6 (.double FP.dconst0)) := (e25 _ (by omega)).trans f24_3
  have f25_4 : h25 (n + 1 + 1 + 1) = some (true, 0, List.replicate 6 (.int 0)) := (e25 _ (by omega)).trans f24_4
  have f25_5 : h25 (n + 1 + 1 + 1 + 1) = some (true, 0, List.replicate 6 (.int 0)) := (e25 _ (by omega)).trans f24_5
  have f25_6 : h25 (n + 1 + 1 + 1 + 1 + 1) = some (true, 0, List.replicate 6 (.int 0)) := (e25 _ (by omega)).trans f24_6
  have f25_7 : h25 (n + 1 + 1 + 1 + 1 + 1 + 1) = some (true, 2, List.replicate 6 (.double FP.dconst0)) := (e25 _ (by omega)).trans f24_7
  have f25_8 : h25 (n + 1 + 1 + 1 + 1 + 1 + 1 + 1) = some (true, 2, List.replicate 6 (.double FP.dconst0)) := (e25 _ (by omega)).trans f24_8
  have f25_9 : h25 (n + 1 + 1 + 1 + 1 + 1 + 1 + 1 + 1) = some (true, 0, List.replicate 6 (.int 0)) := (e25 _ (by omega)).trans f24_9
  have f25_10 : h25 (n + 1 + 1 + 1 + 1 + 1 + 1 + 1 + 1 + 1) = some (true, 0, List.replicate 6 (.int 0)) := (e25 _ (by omega)).trans f24_10
  have f25_11 : h25 (n + 1 + 1 + 1 + 1 + 1 + 1 + 1 + 1 + 1 + 1) = some (true, 0, List.replicate 8 (.int 0)) := (e25 _ (by omega)).trans f24_11
  have f25_12 : h25 (n + 1 + 1 + 1 + 1 + 1 + 1 + 1 + 1 + 1 + 1 + 1) = some (true, 0, List.replicate 8 (.int 0)) := (e25 _ (by omega)).trans f24_12
  have f25_13 : h25 (n + 1 + 1 + 1 + 1 + 1 + 1 + 1 + 1 + 1 + 1 + 1 + 1) = some (true, 0, List.replicate 8 (.int 0)) := g25
  have w25 : ∀ q, q < n → q ≠ a → h25 q = h q := fun q hq na => (e25 q (by omega)).trans (w24 q hq na)
  refine sx_o (q := a) (o := (false, 9, [.int 0, .ref n, .ref (n + 1), .ref (n + 1 + 1), .ref (n + 1 + 1 + 1), .ref (n + 1 + 1 + 1 + 1), .ref (n + 1 + 1 + 1 + 1 + 1), .ref (n + 1 + 1 + 1 + 1 + 1 + 1), .ref (n + 1 + 1 + 1 + 1 + 1 + 1 + 1), .ref (n + 1 + 1 + 1 + 1 + 1 + 1 + 1 + 1), .ref (n + 1 + 1 + 1 + 1 + 1 + 1 + 1 + 1 + 1), .double FP.dconst0, .ref (n + 1 + 1 + 1 + 1 + 1 + 1 + 1 + 1 + 1 + 1), .ref (n + 1 + 1 + 1 + 1 + 1 + 1 + 1 + 1 + 1 + 1 + 1), .ref (n + 1 + 1 + 1 + 1 + 1 + 1 + 1 + 1 + 1 + 1 + 1 + 1), .null, .null, .null, .null, .null, .null, .null, .null, .null, .int 0, .int 0])) (fun Z k => sh_putF (k := 14) dc_Mod_init_105 f25_0 rfl (by decide) wd_876 rfl rfl rfl pd_AI rfl rfl k) ?_
  intro h26 g26 e26
  have f26_1 : h26 n = some (true, 3, List.replicate 6 (.int 0)) := (e26 _ (by omega)).trans f25_1
  have f26_2 : h26 (n + 1) = some (true, 3, List.replicate 6 (.int 0)) := (e26 _ (by omega)).trans f25_2
  have f26_3 : h26 (n + 1 + 1) = some (true, 2, List.replicate 6 (.double FP.dconst0)) := (e26 _ (by omega)).trans f25_3
  have f26_4 : h26 (n + 1 + 1 + 1) = some (true, 0, List.replicate 6 (.int 0)) := (e26 _ (by omega)).trans f25_4
  have f26_5 : h26 (n + 1 + 1 + 1 + 1) = some (true, 0, List.replicate 6 (.int 0)) := (e26 _ (by omega)).trans f25_5
  have f26_6 : h26 (n + 1 + 1 + 1 + 1 + 1) = some (true, 0, List.replicate 6 (.int 0)) := (e26 _ (by omega)).trans f25_6
  have f26_7 : h26 (n + 1 + 1 + 1 + 1 + 1 + 1) = some (true, 2, List.replicate 6 (.double FP.dconst0)) := (e26 _ (by omega)).trans f25_7
  have f26_8 : h26 (n + 1 + 1 + 1 + 1 + 1 + 1 + 1) = some (true, 2, List.replicate 6 (.double FP.dconst0)) := (e26 _ (by omega)).trans f25_8
  have f26_9 : h26 (n + 1 + 1 + 1 + 1 + 1 + 1 + 1 + 1) = some (true, 0, List.replicate 6 (.int 0)) := (e26 _ (by omega)).trans f25_9
  have f26_10 : h26 (n + 1 + 1 + 1 + 1 + 1 + 1 + 1 + 1 + 1) = some (true, 0, List.replicate 6 (.int 0)) := (e26 _ (by omega)).trans f25_10
  have f26_11 : h26 (n + 1 + 1 + 1 + 1 + 1 + 1 + 1 + 1 + 1 + 1) = some (true, 0, List.replicate 8 (.int 0)) := (e26 _ (by omega)).trans f25_11
  have f26_12 : h26 (n + 1 + 1 + 1 + 1 + 1 + 1 + 1 + 1 + 1 + 1 + 1) = some (true, 0, List.replicate 8 (.int 0)) := (e26 _ (by omega)).trans f25_12
  have f26_13 : h26 (n + 1 + 1 + 1 + 1 + 1 + 1 + 1 + 1 + 1 + 1 + 1 + 1) = some (true, 0, List.replicate 8 (.int 0)) := (e26 _ (by omega)).trans f25_13
  have f26_0 : h26 a = some (false, 9, [.int 0, .ref n, .ref (n + 1), .ref (n + 1 + 1), .ref (n + 1 + 1 + 1), .ref (n + 1 + 1 + 1 + 1), .ref (n + 1 + 1 + 1 + 1 + 1), .ref (n + 1 + 1 + 1 + 1 + 1 + 1), .ref (n + 1 + 1 + 1 + 1 + 1 + 1 + 1), .ref (n + 1 + 1 + 1 + 1 + 1 + 1 + 1 + 1), .ref (n + 1 + 1 + 1 + 1 + 1 + 1 + 1 + 1 + 1), .double FP.dconst0, .ref (n + 1 + 1 + 1 + 1 + 1 + 1 + 1 + 1 + 1 + 1), .ref (n + 1 + 1 + 1 + 1 + 1 + 1 + 1 + 1 + 1 + 1 + 1), .ref (n + 1 + 1 + 1 + 1 + 1 + 1 + 1 + 1 + 1 + 1 + 1 + 1), .null, .null, .null, .null, .null, .null, .null, .null, .null, .int 0, .int 0]) := g26
  have w26 : ∀ q, q < n → q ≠ a → h26 q = h q := fun q hq na => (e26 q (by omega)).trans (w25 q hq na)
  refine sx_p (fun Z k => sh_aload_n dc_Mod_init_108 rfl rfl k) ?_
  refine sx_p (fun Z k => sh_bipush (v := 8) dc_Mod_init_109 (by decide) k) ?_
  refine sx_n (o := (true, 0, List.replicate 8 (.int 0))) (fun Z k => sh_newa (N := 8) dc_Mod_init_111 rfl (ti := 0) rfl (fun U cA q => q) wd_159 (by decide) (by decide) (by decide) (by decide) (by decide) k) ?_
  intro h27 g27 e27
  have f27_0 : h27 a = some (false, 9, [.int 0, .ref n, .ref (n + 1), .ref (n + 1 + 1), .ref (n + 1 + 1 + 1), .ref (n + 1 + 1 + 1 + 1), .ref (n + 1 + 1 + 1 + 1 + 1), .ref (n + 1 + 1 + 1 + 1 + 1 + 1), .ref (n + 1 + 1 + 1 + 1 + 1 + 1 + 1), .ref (n + 1 + 1 + 1 + 1 + 1 + 1 + 1 + 1), .ref (n + 1 + 1 + 1 + 1 + 1 + 1 + 1 + 1 + 1), .double FP.dconst0, .ref (n + 1 + 1 + 1 + 1 + 1 + 1 + 1 + 1 + 1 + 1), .ref (n + 1 + 1 + 1 + 1 + 1 + 1 + 1 + 1 + 1 + 1 + 1), .ref (n + 1 + 1 + 1 + 1 + 1 + 1 + 1 + 1 + 1 + 1 + 1 + 1), .null, .null, .null, .null, .null, .null, .null, .null, .null, .int 0, .int 0]) := (e27 _ (by omega)).trans f26_0
  have f27_1 : h27 n = some (true, 3, List.replicate 6 (.int 0)) := (e27 _ (by omega)).trans f26_1
  have f27_2 : h27 (n + 1) = some (true, 3, List.replicate 6 (.int 0)) := (e27 _ (by omega)).trans f26_2
  have f27_3 : h27 (n + 1 + 1) = some (true, 2, List.replicate 6 (.double FP.dconst0)) := (e27 _ (by omega)).trans f26_3
  have f27_4 : h27 (n + 1 + 1 + 1) = some (true, 0, List.replicate 6 (.int 0)) := (e27 _ (by omega)).trans f26_4
  have f27_5 : h27 (n + 1 + 1 + 1 + 1) = some (true, 0, List.replicate 6 (.int 0)) := (e27 _ (by omega)).trans f26_5
  have f27_6 : h27 (n + 1 + 1 + 1 + 1 + 1) = some (true, 0, List.replicate 6 (.int 0)) := (e27 _ (by omega)).trans f26_6
  have f27_7 : h27 (n + 1 + 1 + 1 + 1 + 1 + 1) = some (true, 2, List.replicate 6 (.double FP.dconst0)) := (e27 _ (by omega)).trans f26_7
  have f27_8 : h27 (n + 1 + 1 + 1 + 1 + 1 + 1 + 1) = some (true, 2, List.replicate 6 (.double FP.dconst0)) := (e27 _ (by omega)).trans f26_8
  have f27_9 : h27 (n + 1 + 1 + 1 + 1 + 1 + 1 + 1 + 1) = some (true, 0, List.replicate 6 (.int 0)) := (e27 _ (by omega)).trans f26_9
  have f27_10 : h27 (n + 1 + 1 + 1 + 1 + 1 + 1 + 1 + 1 + 1) = some (true, 0, List.replicate 6 (.int 0)) := (e27 _ (by omega)).trans f26_10
  have f27_11 : h27 (n + 1 + 1 + 1 + 1 + 1 + 1 + 1 + 1 + 1 + 1) = some (true, 0, List.replicate 8 (.int 0)) := (e27 _ (by omega)).trans f26_11
  have f27_12 : h27 (n + 1 + 1 + 1 + 1 + 1 + 1 + 1 + 1 + 1 + 1 + 1) = some (true, 0, List.replicate 8 (.int 0)) := (e27 _ (by omega)).trans f26_12
  have f27_13 : h27 (n + 1 + 1 + 1 + 1 + 1 + 1 + 1 + 1 + 1 + 1 + 1 + 1) = some (true, 0, List.replicate 8 (.int 0)) := (e27 _ (by omega)).trans f26_13
  have f27_14 : h27 (n + 1 + 1 + 1 + 1 + 1 + 1 + 1 + 1 + 1 + 1 + 1 + 1 + 1) = some (true, 0, List.replicate 8 (.int 0)) := g27
  have w27 : ∀ q, q < n → q ≠ a → h27 q = h q := fun q hq na => (e27 q (by omega)).trans (w26 q hq na)
  refine sx_o (q := a) (o := (false, 9, [.int 0, .ref n, .ref (n + 1), .ref (n + 1 + 1), .ref (n + 1 + 1 + 1), .ref (n + 1 + 1 + 1 + 1), .ref (n + 1 + 1 + 1 + 1 + 1), .ref (n + 1 + 1 + 1 + 1 + 1 + 1), .ref (n + 1 + 1 + 1 + 1 + 1 + 1 + 1), .ref (n + 1 + 1 + 1 + 1 + 1 + 1 + 1 + 1), .ref (n + 1 + 1 + 1 + 1 + 1 + 1 + 1 + 1 + 1), .double FP.dconst0, .ref (n + 1 + 1 + 1 + 1 + 1 + 1 + 1 + 1 + 1 + 1), .ref (n + 1 + 1 + 1 + 1 + 1 + 1 + 1 + 1 + 1 + 1 + 1), .ref (n + 1 + 1 + 1 + 1 + 1 + 1 + 1 + 1 + 1 + 1 + 1 + 1), .ref (n + 1 + 1 + 1 + 1 + 1 + 1 + 1 + 1 + 1 + 1 + 1 + 1 + 1), .null, .null, .null, .null, .null, .null, .null, .null, .int 0, .int 0])) (fun Z k => sh_putF (k := 15) dc_Mod_init_113 f27_0 rfl (by decide) wd_877 rfl rfl rfl pd_AI rfl rfl k) ?_
  intro h28 g28 e28
  have f28_1 : h28 n = some (true, 3, List.replicate 6 (.int 0)) := (e28 _ (by omega)).trans f27_1
  have f28_2 : h28 (n + 1) = some (true, 3, List.replicate 6 (.int 0)) := (e28 _ (by omega)).trans f27_2
  have f28_3 : h28 (n + 1 + 1) = some (true, 2, List.replicate 6 (.double FP.dconst0)) := (e28 _ (by omega)).trans f27_3
  have f28_4 : h28 (n + 1 + 1 + 1) = some (true, 0, List.replicate 6 (.int 0)) := (e28 _ (by omega)).trans f27_4
  have f28_5 : h28 (n + 1 + 1 + 1 + 1) = some (true, 0, List.replicate 6 (.int 0)) := (e28 _ (by omega)).trans f27_5
  have f28_6 : h28 (n + 1 + 1 + 1 + 1 + 1) = some (true, 0, List.replicate 6 (.int 0)) := (e28 _ (by omega)).trans f27_6
  have f28_7 : h28 (n + 1 + 1 + 1 + 1 + 1 + 1) = some (true, 2, List.replicate 6 (.double FP.dconst0)) := (e28 _ (by omega)).trans f27_7
  have f28_8 : h28 (n + 1 + 1 + 1 + 1 + 1 + 1 + 1) = some (true, 2, List.replicate 6 (.double FP.dconst0)) := (e28 _ (by omega)).trans f27_8
  have f28_9 : h28 (n + 1 + 1 + 1 + 1 + 1 + 1 + 1 + 1) = some (true, 0, List.replicate 6 (.int 0)) := (e28 _ (by omega)).trans f27_9
  have f28_10 : h28 (n + 1 + 1 + 1 + 1 + 1 + 1 + 1 + 1 + 1) = some (true, 0, List.replicate 6 (.int 0)) := (e28 _ (by omega)).trans f27_10
  have f28_11 : h28 (n + 1 + 1 + 1 + 1 + 1 + 1 + 1 + 1 + 1 + 1) = some (true, 0, List.replicate 8 (.int 0)) := (e28 _ (by omega)).trans f27_11
  have f28_12 : h28 (n + 1 + 1 + 1 + 1 + 1 + 1 + 1 + 1 + 1 + 1 + 1) = some (true, 0, List.replicate 8 (.int 0)) := (e28 _ (by omega)).trans f27_12
  have f28_13 : h28 (n + 1 + 1 + 1 + 1 + 1 + 1 + 1 + 1 + 1 + 1 + 1 + 1) = some (true, 0, List.replicate 8 (.int 0)) := (e28 _ (by omega)).trans f27_13
  have f28_14 : h28 (n + 1 + 1 + 1 + 1 + 1 + 1 + 1 + 1 + 1 + 1 + 1 + 1 + 1) = some (true, 0, List.replicate 8 (.int 0)) := (e28 _ (by omega)).trans f27_14
  have f28_0 : h28 a = some (false, 9, [.int 0, .ref n, .ref (n + 1), .ref (n + 1 + 1), .ref (n + 1 + 1 + 1), .ref (n + 1 + 1 + 1 + 1), .ref (n + 1 + 1 + 1 + 1 + 1), .ref (n + 1 + 1 + 1 + 1 + 1 + 1), .ref (n + 1 + 1 + 1 + 1 + 1 + 1 + 1), .ref (n + 1 + 1 + 1 + 1 + 1 + 1 + 1 + 1), .ref (n + 1 + 1 + 1 + 1 + 1 + 1 + 1 + 1 + 1), .double FP.dconst0, .ref (n + 1 + 1 + 1 + 1 + 1 + 1 + 1 + 1 + 1 + 1), .ref (n + 1 + 1 + 1 + 1 + 1 + 1 + 1 + 1 + 1 + 1 + 1), .ref (n + 1 + 1 + 1 + 1 + 1 + 1 + 1 + 1 + 1 + 1 + 1 + 1), .ref (n + 1 + 1 + 1 + 1 + 1 + 1 + 1 + 1 + 1 + 1 + 1 + 1 + 1), .null, .null, .null, .null, .null, .null, .null, .null, .int 0, .int 0]) := g28
  have w28 : ∀ q, q < n → q ≠ a → h28 q = h q := fun q hq na => (e28 q (by omega)).trans (w27 q hq na)
  refine sx_p (fun Z k => sh_aload_n dc_Mod_init_116 rfl rfl k) ?_
  refine sx_p (fun Z k => sh_bipush (v := 8) dc_Mod_init_117 (by decide) k) ?_
  refine sx_n (o := (true, 0, List.replicate 8 (.int 0))) (fun Z k => sh_newa (N := 8) dc_Mod_init_119 rfl (ti := 0) rfl (fun U cA q => q) wd_159 (by decide) (by decide) (by decide) (by decide) (by decide) k) ?_
  intro h29 g29 e29
  have f29_0 : h29 a = some (false, 9, [.int 0, .ref n, .ref (n + 1), .ref (n + 1 + 1), .ref (n + 1 + 1 + 1), .ref (n + 1 + 1 + 1 + 1), .ref (n + 1 + 1 + 1 + 1 + 1), .ref (n + 1 + 1 + 1 + 1 + 1 + 1), .ref (n + 1 + 1 + 1 + 1 + 1 + 1 + 1), .ref (n + 1 + 1 + 1 + 1 + 1 + 1 + 1 + 1), .ref (n + 1 + 1 + 1 + 1 + 1 + 1 + 1 + 1 + 1), .double FP.dconst0, .ref (n + 1 + 1 + 1 + 1 + 1 + 1 + 1 + 1 + 1 + 1), .ref (n + 1 + 1 + 1 + 1 + 1 + 1 + 1 + 1 + 1 + 1 + 1), .ref (n + 1 + 1 + 1 + 1 + 1 + 1 + 1 + 1 + 1 + 1 + 1 + 1), .ref (n + 1 + 1 + 1 + 1 + 1 + 1 + 1 + 1 + 1 + 1 + 1 + 1 + 1), .null, .null, .null, .null, .null, .null, .null, .null, .int 0, .int 0]) := (e29 _ (by omega)).trans f28_0
  have f29_1 : h29 n = some (true, 3, List.replicate 6 (.int 0)) := (e29 _ (by omega)).trans f28_1
  have f29_2 : h29 (n + 1) = some (true, 3, List.replicate 6 (.int 0)) := (e29 _ (by omega)).trans f28_2
  have f29_3 : h29 (n + 1 + 1) = some (true, 2, List.replicate 6 (.double FP.dconst0)) := (e29 _ (by omega)).trans f28_3
  have f29_4 : h29 (n + 1 + 1 + 1) = some (true, 0, List.replicate 6 (.int 0)) := (e29 _ (by omega)).trans f28_4
  have f29_5 : h29 (n + 1 + 1 + 1 + 1) = some (true, 0, List.replicate 6 (.int 0)) := (e29 _ (by omega)).trans f28_5
  have f29_6 : h29 (n + 1 + 1 + 1 + 1 + 1) = some (true, 0, List.replicate 6 (.int 0)) := (e29 _ (by omega)).trans f28_6
  have f29_7 : h29 (n + 1 + 1 + 1 + 1 + 1 + 1) = some (true, 2, List.replicate 6 (.double FP.dconst0)) := (e29 _ (by omega)).trans f28_7
  have f29_8 : h29 (n + 1 + 1 + 1 + 1 + 1 + 1 + 1) = some (true, 2, List.replicate 6 (.double FP.dconst0)) := (e29 _ (by omega)).trans f28_8
  have f29_9 : h29 (n + 1 + 1 + 1 + 1 + 1 + 1 + 1 + 1) = some (true, 0, List.replicate 6 (.int 0)) := (e29 _ (by omega)).trans f28_9
  have f29_10 : h29 (n + 1 + 1 + 1 + 1 + 1 + 1 + 1 + 1 + 1) = some (true, 0, List.replicate 6 (.int 0)) := (e29 _ (by omega)).trans f28_10
  have f29_11 : h29 (n + 1 + 1 + 1 + 1 + 1 + 1 + 1 + 1 + 1 + 1) = some (true, 0, List.replicate 8 (.int 0)) := (e29 _ (by omega)).trans f28_11
  have f29_12 : h29 (n + 1 + 1 + 1 + 1 + 1 + 1 + 1 + 1 + 1 + 1 + 1) = some (true, 0, List.replicate 8 (.int 0)) := (e29 _ (by omega)).trans f28_12
  have f29_13 : h29 (n + 1 + 1 + 1 + 1 + 1 + 1 + 1 + 1 + 1 + 1 + 1 + 1) = some (true, 0, List.replicate 8 (.int 0)) := (e29 _ (by omega)).trans f28_13
  have f29_14 : h29 (n + 1 + 1 + 1 + 1 + 1 + 1 + 1 + 1 + 1 + 1 + 1 + 1 + 1) = some (true, 0, List.replicate 8 (.int 0)) := (e29 _ (by omega)).trans f28_14
  have f29_15 : h29 (n + 1 + 1 + 1 + 1 + 1 + 1 + 1 + 1 + 1 + 1 + 1 + 1 + 1 + 1) = some (true, 0, List.replicate 8 (.int 0)) := g29
  have w29 : ∀ q, q < n → q ≠ a → h29 q = h q := fun q hq na => (e29 q (by omega)).trans (w28 q hq na)
  refine sx_o (q := a) (o := (false, 9, [.int 0, .ref n, .ref (n + 1), .ref (n + 1 + 1), .ref (n + 1 + 1 + 1), .ref (n + 1 + 1 + 1 + 1), .ref (n + 1 + 1 + 1 + 1 + 1), .ref (n + 1 + 1 + 1 + 1 + 1 + 1), .ref (n + 1 + 1 + 1 + 1 + 1 + 1 + 1), .ref (n + 1 + 1 + 1 + 1 + 1 + 1 + 1 + 1), .ref (n + 1 + 1 + 1 + 1 + 1 + 1 + 1 + 1 + 1), .double FP.dconst0, .ref (n + 1 + 1 + 1 + 1 + 1 + 1 + 1 + 1 + 1 + 1), .ref (n + 1 + 1 + 1 + 1 + 1 + 1 + 1 + 1 + 1 + 1 + 1), .ref (n + 1 + 1 + 1 + 1 + 1 + 1 + 1 + 1 + 1 + 1 + 1 + 1), .ref (n + 1 + 1 + 1 + 1 + 1 + 1 + 1 + 1 + 1 + 1 + 1 + 1 + 1), .ref (n + 1 + 1 + 1 + 1 + 1 + 1 + 1 + 1 + 1 + 1 + 1 + 1 + 1 + 1), .null, .null, .null, .null, .null, .null, .null, .int 0, .int 0])) (fun Z k => sh_putF (k := 16) dc_Mod_init_121 f29_0 rfl (by decide) wd_878 rfl rfl rfl pd_AI rfl rfl k) ?_
  intro h30 g30 e30
  have f30_1 : h30 n = some (true, 3, List.replicate 6 (.int 0)) := (e30 _ (by omega)).trans f29_1
  have f30_2 : h30 (n + 1) = some (true, 3, List.replicate 6 (.int 0)) := (e30 _ (by omega)).trans f29_2
  have f30_3 : h30 (n + 1 + 1) = some (true, 2, List.replicate 6 (.double FP.dconst0)) := (e30 _ (by omega)).trans f29_3
  have f30_4 : h30 (n + 1 + 1 + 1) = some (true, 0, List.replicate 6 (.int 0)) := (e30 _ (by omega)).trans f29_4
  have f30_5 : h30 (n + 1 + 1 + 1 + 1) = some (true, 0, List.replicate 6 (.int 0)) := (e30 _ (by omega)).trans f29_5
  have f30_6 : h30 (n + 1 + 1 + 1 + 1 + 1) = some (true, 0, List.replicate 6 (.int 0)) := (e30 _ (by omega)).trans f29_6
  have f30_7 : h30 (n + 1 + 1 + 1 + 1 + 1 + 1) = some (true, 2, List.replicate 6 (.double FP.dconst0)) := (e30 _ (by omega)).trans f29_7
  have f30_8 : h30 (n + 1 + 1 + 1 + 1 + 1 + 1 + 1) = some (true, 2, List.replicate 6 (.double FP.dconst0)) := (e30 _ (by omega)).trans f29_8
  have f30_9 : h30 (n + 1 + 1 + 1 + 1 + 1 + 1 + 1 + 1) = some (true, 0, List.replicate 6 (.int 0)) := (e30 _ (by omega)).trans f29_9
  have f30_10 : h30 (n + 1 + 1 + 1 + 1 + 1 + 1 + 1 + 1 + 1) = some (true, 0, List.replicate 6 (.int 0)) := (e30 _ (by omega)).trans f29_10
  have f30_11 : h30 (n + 1 + 1 + 1 + 1 + 1 + 1 + 1 + 1 + 1 + 1) = some (true, 0, List.replicate 8 (.int 0)) := (e30 _ (by omega)).trans f29_11
  have f30_12 : h30 (n + 1 + 1 + 1 + 1 + 1 + 1 + 1 + 1 + 1 + 1 + 1) = some (true, 0, List.replicate 8 (.int 0)) := (e30 _ (by omega)).trans f29_12
  have f30_13 : h30 (n + 1 + 1 + 1 + 1 + 1 + 1 + 1 + 1 + 1 + 1 + 1 + 1) = some (true, 0, List.replicate 8 (.int 0)) := (e30 _ (by omega)).trans f29_13
  have f30_14 : h30 (n + 1 + 1 + 1 + 1 + 1 + 1 + 1 + 1 + 1 + 1 + 1 + 1 + 1) = some (true, 0, List.replicate 8 (.int 0)) := (e30 _ (by omega)).trans f29_14
  have f30_15 : h30 (n + 1 + 1 + 1 + 1 + 1 + 1 + 1 + 1 + 1 + 1 + 1 + 1 + 1 + 1) = some (true, 0, List.replicate 8 (.int 0)) := (e30 _ (by omega)).trans f29_15
  have f30_0 : h30 a = some (false, 9, [.int 0, .ref n, .ref (n + 1), .ref (n + 1 + 1), .ref (n + 1 + 1 + 1), .ref (n + 1 + 1 + 1 + 1), .ref (n + 1 + 1 + 1 + 1 + 1), .ref (n + 1 + 1 + 1 + 1 + 1 + 1), .ref (n + 1 + 1 + 1 + 1 + 1 + 1 + 1), .ref (n + 1 + 1 + 1 + 1 + 1 + 1 + 1 + 1), .ref (n + 1 + 1 + 1 + 1 + 1 + 1 + 1 + 1 + 1), .double FP.dconst0, .ref (n + 1 + 1 + 1 + 1 + 1 + 1 + 1 + 1 + 1 + 1), .ref (n + 1 + 1 + 1 + 1 + 1 + 1 + 1 + 1 + 1 + 1 + 1), .ref (n + 1 + 1 + 1 + 1 + 1 + 1 + 1 + 1 + 1 + 1 + 1 + 1), .ref (n + 1 + 1 + 1 + 1 + 1 + 1 + 1 + 1 + 1 + 1 + 1 + 1 + 1), .ref (n + 1 + 1 + 1 + 1 + 1 + 1 + 1 + 1 + 1 + 1 + 1 + 1 + 1 + 1), .null, .null, .null, .null, .null, .null, .null, .int 0, .int 0]) := g30
  have w30 : ∀ q, q < n → q ≠ a → h30 q = h q := fun q hq na => (e30 q (by omega)).trans (w29 q hq na)
  refine sx_p (fun Z k => sh_aload_n dc_Mod_init_124 rfl rfl k) ?_
  refine sx_p (fun Z k => sh_bipush (v := 48) dc_Mod_init_125 (by decide) k) ?_
  refine sx_n (o := (true, 0, List.replicate 48 (.int 0))) (fun Z k => sh_newa (N := 48) dc_Mod_init_127 rfl (ti := 0) rfl (fun U cA q => q) wd_159 (by decide) (by decide) (by decide) (by decide) (by decide) k) ?_
  intro h31 g31 e31
  have f31_0 : h31 a = some (false, 9, [.int 0, .ref n, .ref (n + 1), .ref (n + 1 + 1), .ref (n + 1 + 1 + 1), .ref (n + 1 + 1 + 1 + 1), .ref (n + 1 + 1 + 1 + 1 + 1), .ref (n + 1 + 1 + 1 + 1 + 1 + 1), .ref (n + 1 + 1 + 1 + 1 + 1 + 1 + 1), .ref (n + 1 + 1 + 1 + 1 + 1 + 1 + 1 + 1), .ref (n + 1 + 1 + 1 + 1 + 1 + 1 + 1 + 1 + 1), .double FP.dconst0, .ref (n + 1 + 1 + 1 + 1 + 1 + 1 + 1 + 1 + 1 + 1), .ref (n + 1 + 1 + 1 + 1 + 1 + 1 + 1 + 1 + 1 + 1 + 1), .ref (n + 1 + 1 + 1 + 1 + 1 + 1 + 1 + 1 + 1 + 1 + 1 + 1), .ref (n + 1 + 1 + 1 + 1 + 1 + 1 + 1 + 1 + 1 + 1 + 1 + 1 + 1), .ref (n + 1 + 1 + 1 + 1 + 1 + 1 + 1 + 1 + 1 + 1 + 1 + 1 + 1 + 1), .null, .null, .null, .null, .null, .null, .null, .int 0, .int 0]) := (e31 _ (by omega)).trans f30_0
  have f31_1 : h31 n = some (true, 3, List.replicate 6 (.int 0)) := (e31 _ (by omega)).trans f30_1
  have f31_2 : h31 (n + 1) = some (true, 3, List.replicate 6 (.int 0)) := (e31 _ (by omega)).trans f30_2
  have f31_3 : h31 (n + 1 + 1) = some (true, 2, List.replicate 6 (.double FP.dconst0)) := (e31 _ (by omega)).trans f30_3
  have f31_4 : h31 (n + 1 + 1 + 1) = some (true, 0, List.replicate 6 (.int 0)) := (e31 _ (by omega)).trans f30_4
  have f31_5 : h31 (n + 1 + 1 + 1 + 1) = some (true, 0, List.replicate 6 (.int 0)) := (e31 _ (by omega)).trans f30_5
  have f31_6 : h31 (n + 1 + 1 + 1 + 1 + 1) = some (true, 0, List.replicate 6 (.int 0)) := (e31 _ (by omega)).trans f30_6
  have f31_7 : h31 (n + 1 + 1 + 1 + 1 + 1 + 1) = some (true, 2, List.replicate 6 (.double FP.dconst0)) := (e31 _ (by omega)).trans f30_7
  have f31_8 : h31 (n + 1 + 1 + 1 + 1 + 1 + 1 + 1) = some (true, 2, List.replicate 6 (.double FP.dconst0)) := (e31 _ (by omega)).trans f30_8
  have f31_9 : h31 (n + 1 + 1 + 1 + 1 + 1 + 1 + 1 + 1) = some (true, 0, List.replicate 6 (.int 0)) := (e31 _ (by omega)).trans f30_9
  have f31_10 : h31 (n + 1 + 1 + 1 + 1 + 1 + 1 + 1 + 1 + 1) = some (true, 0, List.replicate 6 (.int 0)) := (e31 _ (by omega)).trans f30_10
  have f31_11 : h31 (n + 1 + 1 + 1 + 1 + 1 + 1 + 1 + 1 + 1 + 1) = some (true, 0, List.replicate 8 (.int 0)) := (e31 _ (by omega)).trans f30_11
  have f31_12 : h31 (n + 1 + 1 + 1 + 1 + 1 + 1 + 1 + 1 + 1 + 1 + 1) = some (true, 0, List.replicate 8 (.int 0)) := (e31 _ (by omega)).trans f30_12
  have f31_13 : h31 (n + 1 + 1 + 1 + 1 + 1 + 1 + 1 + 1 + 1 + 1 + 1 + 1) = some (true, 0, List.replicate 8 (.int 0)) := (e31 _ (by omega)).trans f30_13
  have f31_14 : h31 (n + 1 + 1 + 1 + 1 + 1 + 1 + 1 + 1 + 1 + 1 + 1 + 1 + 1) = some (true, 0, List.replicate 8 (.int 0)) := (e31 _ (by omega)).trans f30_14
  have f31_15 : h31 (n + 1 + 1 + 1 + 1 + 1 + 1 + 1 + 1 + 1 + 1 + 1 + 1 + 1 + 1) = some (true, 0, List.replicate 8 (.int 0)) := (e31 _ (by omega)).trans f30_15
  have f31_16 : h31 (n + 1 + 1 + 1 + 1 + 1 + 1 + 1 + 1 + 1 + 1 + 1 + 1 + 1 + 1 + 1) = some (true, 0, List.replicate 48 (.int 0)) := g31
  have w31 : ∀ q, q < n → q ≠ a → h31 q = h q := fun q hq na => (e31 q (by omega)).trans (w30 q hq na)
  refine sx_o (q := a) (o := (false, 9, [.int 0, .ref n, .ref (n + 1), .ref (n + 1 + 1), .ref (n + 1 + 1 + 1), .ref (n + 1 + 1 + 1 + 1), .ref (n + 1 + 1 + 1 + 1 + 1), .ref (n + 1 + 1 + 1 + 1 + 1 + 1), .ref (n + 1 + 1 + 1 + 1 + 1 + 1 + 1), .ref (n + 1 + 1 + 1 + 1 + 1 + 1 + 1 + 1), .ref (n + 1 + 1 + 1 + 1 + 1 + 1 + 1 + 1 + 1), .double FP.dconst0, .ref (n + 1 + 1 + 1 + 1 + 1 + 1 + 1 + 1 + 1 + 1), .ref (n + 1 + 1 + 1 + 1 + 1 + 1 + 1 + 1 + 1 + 1 + 1), .ref (n + 1 + 1 + 1 + 1 + 1 + 1 + 1 + 1 + 1 + 1 + 1 + 1), .ref (n + 1 + 1 + 1 + 1 + 1 + 1 + 1 + 1 + 1 + 1 + 1 + 1 + 1), .ref (n + 1 + 1 + 1 + 1 + 1 + 1 + 1 + 1 + 1 + 1 + 1 + 1 + 1 + 1), .ref (n + 1 + 1 + 1 + 1 + 1 + 1 + 1 + 1 + 1 + 1 + 1 + 1 + 1 + 1 + 1), .null, .null, .null, .null, .null, .null, .int 0, .int 0])) (fun Z k => sh_putF (k := 17) dc_Mod_init_129 f31_0 rfl (by decide) wd_879 rfl rfl rfl pd_AI rfl rfl k) ?_
  intro h32 g32 e32
  have f32_1 : h32 n = some (true, 3, List.replicate 6 (.int 0)) := (e32 _ (by omega)).trans f31_1
  have f32_2 : h32 (n + 1) = some (true, 3, List.replicate 6 (.int 0)) := (e32 _ (by omega)).trans f31_2
  have f32_3 : h32 (n + 1 + 1) = some (true, 2, List.replicate 6 (.double FP.dconst0)) := (e32 _ (by omega)).trans f31_3
  have f32_4 : h32 (n + 1 + 1 + 1) = some (true, 0, List.replicate 6 (.int 0)) := (e32 _ (by omega)).trans f31_4
  have f32_5 : h32 (n + 1 + 1 + 1 + 1) = some (true, 0, List.replicate 6 (.int 0)) := (e32 _ (by omega)).trans f31_5
  have f32_6 : h32 (n + 1 + 1 + 1 + 1 + 1) = some (true, 0, List.replicate 6 (.int 0)) := (e32 _ (by omega)).trans f31_6
  have f32_7 : h32 (n + 1 + 1 + 1 + 1 + 1 + 1) = some (true, 2, List.replicate 6 (.double FP.dconst0)) := (e32 _ (by omega)).trans f31_7
  have f32_8 : h32 (n + 1 + 1 + 1 + 1 + 1 + 1 + 1) = some (true, 2, List.replicate 6 (.double FP.dconst0)) := (e32 _ (by omega)).trans f31_8
  have f32_9 : h32 (n + 1 + 1 + 1 + 1 + 1 + 1 + 1 + 1) = some (true, 0, List.replicate 6 (.int 0)) := (e32 _ (by omega)).trans f31_9
  have f32_10 : h32 (n + 1 + 1 + 1 + 1 + 1 + 1 + 1 + 1 + 1) = some (true, 0, List.replicate 6 (.int 0)) := (e32 _ (by omega)).trans f31_10
  have f32_11 : h32 (n + 1 + 1 + 1 + 1 + 1 + 1 + 1 + 1 + 1 + 1) = some (true, 0, List.replicate 8 (.int 0)) := (e32 _ (by omega)).trans f31_11
  have f32_12 : h32 (n + 1 + 1 + 1 + 1 + 1 + 1 + 1 + 1 + 1 + 1 + 1) = some (true, 0, List.replicate 8 (.int 0)) := (e32 _ (by omega)).trans f31_12
  have f32_13 : h32 (n + 1 + 1 + 1 + 1 + 1 + 1 + 1 + 1 + 1 + 1 + 1 + 1) = some (true, 0, List.replicate 8 (.int 0)) := (e32 _ (by omega)).trans f31_13
  have f32_14 : h32 (n + 1 + 1 + 1 + 1 + 1 + 1 + 1 + 1 + 1 + 1 + 1 + 1 + 1) = some (true, 0, List.replicate 8 (.int 0)) := (e32 _ (by omega)).trans f31_14
  have f32_15 : h32 (n + 1 + 1 + 1 + 1 + 1 + 1 + 1 + 1 + 1 + 1 + 1 + 1 + 1 + 1) = some (true, 0, List.replicate 8 (.int 0)) := (e32 _ (by omega)).trans f31_15
  have f32_16 : h32 (n + 1 + 1 + 1 + 1 + 1 + 1 + 1 + 1 + 1 + 1 + 1 + 1 + 1 + 1 + 1) = some (true, 0, List.replicate 48 (.int 0)) := (e32 _ (by omega)).trans f31_16
  have f32_0 : h32 a = some (false, 9, [.int 0, .ref n, .ref (n + 1), .ref (n + 1 + 1), .ref (n + 1 + 1 + 1), .ref (n + 1 + 1 + 1 + 1), .ref (n + 1 + 1 + 1 + 1 + 1), .ref (n + 1 + 1 + 1 + 1 + 1 + 1), .ref (n + 1 + 1 + 1 + 1 + 1 + 1 + 1), .ref (n + 1 + 1 + 1 + 1 + 1 + 1 + 1 + 1), .ref (n + 1 + 1 + 1 + 1 + 1 + 1 + 1 + 1 + 1), .double FP.dconst0, .ref (n + 1 + 1 + 1 + 1 + 1 + 1 + 1 + 1 + 1 + 1), .ref (n + 1 + 1 + 1 + 1 + 1 + 1 + 1 + 1 + 1 + 1 + 1), .ref (n + 1 + 1 + 1 + 1 + 1 + 1 + 1 + 1 + 1 + 1 + 1 + 1), .ref (n + 1 + 1 + 1 + 1 + 1 + 1 + 1 + 1 + 1 + 1 + 1 + 1 + 1), .ref (n + 1 + 1 + 1 + 1 + 1 + 1 + 1 + 1 + 1 + 1 + 1 + 1 + 1 + 1), .ref (n + 1 + 1 + 1 + 1 + 1 + 1 + 1 + 1 + 1 + 1 + 1 + 1 + 1 + 1 + 1), .null, .null, .null, .null, .null, .null, .int 0, .int 0]) := g32
  have w32 : ∀ q, q < n → q ≠ a → h32 q = h q := fun q hq na => (e32 q (by omega)).trans (w31 q hq na)
  refine sx_p (fun Z k => sh_aload_n dc_Mod_init_132 rfl rfl k) ?_
  refine sx_p (fun Z k => sh_bipush (v := 48) dc_Mod_init_133 (by decide) k) ?_
  refine sx_n (o := (true, 0, List.replicate 48 (.int 0))) (fun Z k => sh_newa (N := 48) dc_Mod_init_135 rfl (ti := 0) rfl (fun U cA q => q) wd_159 (by decide) (by decide) (by decide) (by decide) (by decide) k) ?_
  intro h33 g33 e33
  have f33_0 : h33 a = some (false, 9, [.int 0, .ref n, .ref (n + 1), .ref (n + 1 + 1), .ref (n + 1 + 1 + 1), .ref (n + 1 + 1 + 1 + 1), .ref (n + 1 + 1 + 1 + 1 + 1), .ref (n + 1 + 1 + 1 + 1 + 1 + 1), .ref (n + 1 + 1 + 1 + 1 + 1 + 1 + 1), .ref (n + 1 + 1 + 1 + 1 + 1 + 1 + 1 + 1), .ref (n + 1 + 1 + 1 + 1 + 1 + 1 + 1 + 1 + 1), .double FP.dconst0, .ref (n + 1 + 1 + 1 + 1 + 1 + 1 + 1 + 1 + 1 + 1), .ref (n + 1 + 1 + 1 + 1 + 1 + 1 + 1 + 1 + 1 + 1 + 1), .ref (n + 1 + 1 + 1 + 1 + 1 + 1 + 1 + 1 + 1 + 1 + 1 + 1), .ref (n + 1 + 1 + 1 + 1 + 1 + 1 + 1 + 1 + 1 + 1 + 1 + 1 + 1), .ref (n + 1 + 1 + 1 + 1 + 1 + 1 + 1 + 1 + 1 + 1 + 1 + 1 + 1 + 1), .ref (n + 1 + 1 + 1 + 1 + 1 + 1 + 1 + 1 + 1 + 1 + 1 + 1 + 1 + 1 + 1), .null, .null, .null, .null, .null, .null, .int 0, .int 0]) := (e33 _ (by omega)).trans f32_0
  have f33_1 : h33 n = some (true, 3, List.replicate 6 (.int 0)) := (e33 _ (by omega)).trans f32_1
  have f33_2 : h33 (n + 1) = some (true, 3, List.replicate 6 (.int 0)) := (e33 _ (by omega)).trans f32_2
  have f33_3 : h33 (n + 1 + 1) = some (true, 2, List.replicate 6 (.double FP.dconst0)) := (e33 _ (by omega)).trans f32_3
  have f33_4 : h33 (n + 1 + 1 + 1) = some (true, 0, List.replicate 6 (.int 0)) := (e33 _ (by omega)).trans f32_4
  have f33_5 : h33 (n + 1 + 1 + 1 + 1) = some (true, 0, List.replicate 6 (.int 0)) := (e33 _ (by omega)).trans f32_5
  have f33_6 : h33 (n + 1 + 1 + 1 + 1 + 1) = some (true, 0, List.replicate 6 (.int 0)) := (e33 _ (by omega)).trans f32_6
  have f33_7 : h33 (n + 1 + 1 + 1 + 1 + 1 + 1) = some (true, 2, List.replicate 6 (.double FP.dconst0)) := (e33 _ (by omega)).trans f32_7
  have f33_8 : h33 (n + 1 + 1 + 1 + 1 + 1 + 1 + 1) = some (true, 2, List.replicate 6 (.double FP.dconst0)) := (e33 _ (by omega)).trans f32_8
  have f33_9 : h33 (n + 1 + 1 + 1 + 1 + 1 + 1 + 1 + 1) = some (true, 0, List.replicate 6 (.int 0)) := (e33 _ (by omega)).trans f32_9
  have f33_10 : h33 (n + 1 + 1 + 1 + 1 + 1 + 1 + 1 + 1 + 1) = some (true, 0, List.replicate 6 (.int 0)) := (e33 _ (by omega)).trans f32_10
  have f33_11 : h33 (n + 1 + 1 + 1 + 1 + 1 + 1 + 1 + 1 + 1 + 1) = some (true, 0, List.replicate 8 (.int 0)) := (e33 _ (by omega)).trans f32_11
  have f33_12 : h33 (n + 1 + 1 + 1 + 1 + 1 + 1 + 1 + 1 + 1 + 1 + 1) = some (true, 0, List.replicate 8 (.int 0)) := (e33 _ (by omega)).trans f32_12
  have f33_13 : h33 (n + 1 + 1 + 1 + 1 + 1 + 1 + 1 + 1 + 1 + 1 + 1 + 1) = some (true, 0, List.replicate 8 (.int 0)) := (e33 _ (by omega)).trans f32_13
  have f33_14 : h33 (n + 1 + 1 + 1 + 1 + 1 + 1 + 1 + 1 + 1 + 1 + 1 + 1 + 1) = some (true, 0, List.replicate 8 (.int 0)) := (e33 _ (by omega)).trans f32_14
  have f33_15 : h33 (n + 1 + 1 + 1 + 1 + 1 + 1 + 1 + 1 + 1 + 1 + 1 + 1 + 1 + 1) = some (true, 0, List.replicate 8 (.int 0)) := (e33 _ (by omega)).trans f32_15
  have f33_16 : h33 (n + 1 + 1 + 1 + 1 + 1 + 1 + 1 + 1 + 1 + 1 + 1 + 1 + 1 + 1 + 1) = some (true, 0, List.replicate 48 (.int 0)) := (e33 _ (by omega)).trans f32_16
  have f33_17 : h33 (n + 1 + 1 + 1 + 1 + 1 + 1 + 1 + 1 + 1 + 1 + 1 + 1 + 1 + 1 + 1 + 1) = some (true, 0, List.replicate 48 (.int 0)) := g33
  have w33 : ∀ q, q < n → q ≠ a → h33 q = h q := fun q hq na => (e33 q (by omega)).trans (w32 q hq na)
  refine sx_o (q := a) (o := (false, 9, [.int 0, .ref n, .ref (n + 1), .ref (n + 1 + 1), .ref (n + 1 + 1 + 1), .ref (n + 1 + 1 + 1 + 1), .ref (n + 1 + 1 + 1 + 1 + 1), .ref (n + 1 + 1 + 1 + 1 + 1 + 1), .ref (n + 1 + 1 + 1 + 1 + 1 + 1 + 1), .ref (n + 1 + 1 + 1 + 1 + 1 + 1 + 1 + 1), .ref (n + 1 + 1 + 1 + 1 + 1 + 1 + 1 + 1 + 1), .double FP.dconst0, .ref (n + 1 + 1 + 1 + 1 + 1 + 1 + 1 + 1 + 1 + 1), .ref (n + 1 + 1 + 1 + 1 + 1 + 1 + 1 + 1 + 1 + 1 + 1), .ref (n + 1 + 1 + 1 + 1 + 1 + 1 + 1 + 1 + 1 + 1 + 1 + 1), .ref (n + 1 + 1 + 1 + 1 + 1 + 1 + 1 + 1 + 1 + 1 + 1 + 1 + 1), .ref (n + 1 + 1 + 1 + 1 + 1 + 1 + 1 + 1 + 1 + 1 + 1 + 1 + 1 + 1), .ref (n + 1 + 1 + 1 + 1 + 1 + 1 + 1 + 1 + 1 + 1 + 1 + 1 + 1 + 1 + 1), .ref (n + 1 + 1 + 1 + 1 + 1 + 1 + 1 + 1 + 1 + 1 + 1 + 1 + 1 + 1 + 1 + 1), .null, .null, .null, .null, .null, .int 0, .int 0])) (fun Z k => sh_putF (k := 18) dc_Mod_init_137 f33_0 rfl (by decide) wd_880 rfl rfl rfl pd_AI rfl rfl k) ?_
  intro h34 g34 e34
  have f34_1 : h34 n = some (true, 3, List.replicate 6 (.int 0)) := (e34 _ (by omega)).trans f33_1
  have f34_2 : h34 (n + 1) = some (true, 3, List.replicate 6 (.int 0)) := (e34 _ (by omega)).trans f33_2
  have f34_3 : h34 (n + 1 + 1) = some (true, 2, List.replicate 6 (.double FP.dconst0)) := (e34 _ (by omega)).trans f33_3
  have f34_4 : h34 (n + 1 + 1 + 1) = some (true, 0, List.replicate 6 (.int 0)) := (e34 _ (by omega)).trans f33_4
  have f34_5 : h34 (n + 1 + 1 + 1 + 1) = some (true, 0, List.replicate 6 (.int 0)) := (e34 _ (by omega)).trans f33_5
  have f34_6 : h34 (n + 1 + 1 + 1 + 1 + 1) = some (true, 0, List.replicate 6 (.int 0)) := (e34 _ (by omega)).trans f33_6
  have f34_7 : h34 (n + 1 + 1 + 1 + 1 + 1 + 1) = some (true, 2, List.replicate 6 (.double FP.dconst0)) := (e34 _ (by omega)).trans f33_7
  have f34_8 : h34 (n + 1 + 1 + 1 + 1 + 1 + 1 + 1) = some (true, 2, List.replicate 6 (.double FP.dconst0)) := (e34 _ (by omega)).trans f33_8
  have f34_9 : h34 (n + 1 + 1 + 1 + 1 + 1 + 1 + 1 + 1) = some (true, 0, List.replicate 6 (.int 0)) := (e34 _ (by omega)).trans f33_9
  have f34_10 : h34 (n + 1 + 1 + 1 + 1 + 1 + 1 + 1 + 1 + 1) = some (true, 0, List.replicate 6 (.int 0)) := (e34 _ (by omega)).trans f33_10
  have f34_11 : h34 (n + 1 + 1 + 1 + 1 + 1 + 1 + 1 + 1 + 1 + 1) = some (true, 0, List.replicate 8 (.int 0)) := (e34 _ (by omega)).trans f33_11
  have f34_12 : h34 (n + 1 + 1 + 1 + 1 + 1 + 1 + 1 + 1 + 1 + 1 + 1) = some (true, 0, List.replicate 8 (.int 0)) := (e34 _ (by omega)).trans f33_12
  have f34_13 : h34 (n + 1 + 1 + 1 + 1 + 1 + 1 + 1 + 1 + 1 + 1 + 1 + 1) = some (true, 0, List.replicate 8 (.int 0)) := (e34 _ (by omega)).trans f33_13
  have f34_14 : h34 (n + 1 + 1 + 1 + 1 + 1 + 1 + 1 + 1 + 1 + 1 + 1 + 1 + 1) = some (true, 0, List.replicate 8 (.int 0)) := (e34 _ (by omega)).trans f33_14
  have f34_15 : h34 (n + 1 + 1 + 1 + 1 + 1 + 1 + 1 + 1 + 1 + 1 + 1 + 1 + 1 + 1) = some (true, 0, List.replicate 8 (.int 0)) := (e34 _ (by omega)).trans f33_15
  have f34_16 : h34 (n + 1 + 1 + 1 + 1 + 1 + 1 + 1 + 1 + 1 + 1 + 1 + 1 + 1 + 1 + 1) = some (true, 0, List.replicate 48 (.int 0)) := (e34 _ (by omega)).trans f33_16
  have f34_17 : h34 (n + 1 + 1 + 1 + 1 + 1 + 1 + 1 + 1 + 1 + 1 + 1 + 1 + 1 + 1 + 1 + 1) = some (true, 0, List.replicate 48 (.int 0)) := (e34 _ (by omega)).trans f33_17
  have f34_0 : h34 a = some (false, 9, [.int 0, .ref n, .ref (n + 1), .ref (n + 1 + 1), .ref (n + 1 + 1 + 1), .ref (n + 1 + 1 + 1 + 1), .ref (n + 1 + 1 + 1 + 1 + 1), .ref (n + 1 + 1 + 1 + 1 + 1 + 1), .ref (n + 1 + 1 + 1 + 1 + 1 + 1 + 1), .ref (n + 1 + 1 + 1 + 1 + 1 + 1 + 1 + 1), .ref (n + 1 + 1 + 1 + 1 + 1 + 1 + 1 + 1 + 1), .double FP.dconst0, .ref (n + 1 + 1 + 1 + 1 + 1 + 1 + 1 + 1 + 1 + 1), .ref (n + 1 + 1 + 1 + 1 + 1 + 1 + 1 + 1 + 1 + 1 + 1), .ref (n + 1 + 1 + 1 + 1 + 1 + 1 + 1 + 1 + 1 + 1 + 1 + 1), .ref (n + 1 + 1 + 1 + 1 + 1 + 1 + 1 + 1 + 1 + 1 + 1 + 1 + 1), .ref (n + 1 + 1 + 1 + 1 + 1 + 1 + 1 + 1 + 1 + 1 + 1 + 1 + 1 + 1), .ref (n + 1 + 1 + 1 + 1 + 1 + 1 + 1 + 1 + 1 + 1 + 1 + 1 + 1 + 1 + 1), .ref (n + 1 + 1 + 1 + 1 + 1 + 1 + 1 + 1 + 1 + 1 + 1 + 1 + 1 + 1 + 1 + 1), .null, .null, .null, .null, .null, .int 0, .int 0]) := g34
  have w34 : ∀ q, q < n → q ≠ a → h34 q = h q := fun q hq na => (e34 q (by omega)).trans (w33 q hq na)
  refine sx_p (fun Z k => sh_aload_n dc_Mod_init_140 rfl rfl k) ?_
  refine sx_p (fun Z k => sh_bipush (v := 8) dc_Mod_init_141 (by decide) k) ?_
  refine sx_n (o := (true, 0, List.replicate 8 (.int 0))) (fun Z k => sh_newa (N := 8) dc_Mod_init_143 rfl (ti := 0) rfl (fun U cA q => q) wd_159 (by decide) (by decide) (by decide) (by decide) (by decide) k) ?_
  intro h35 g35 e35
  have f35_0 : h35 a = some (false, 9, [.int 0, .ref n, .ref (n + 1), .ref (n + 1 + 1), .ref (n + 1 + 1 + 1), .ref (n + 1 + 1 + 1 + 1), .ref (n + 1 + 1 + 1 + 1 + 1), .ref (n + 1 + 1 + 1 + 1 + 1 + 1), .ref (n + 1 + 1 + 1 + 1 + 1 + 1 + 1), .ref (n + 1 + 1 + 1 + 1 + 1 + 1 + 1 + 1), .ref (n + 1 + 1 + 1 + 1 + 1 + 1 + 1 + 1 + 1), .double FP.dconst0, .ref (n + 1 + 1 + 1 + 1 + 1 + 1 + 1 + 1 + 1 + 1), .ref (n + 1 + 1 + 1 + 1 + 1 + 1 + 1 + 1 + 1 + 1 + 1), .ref (n + 1 + 1 + 1 + 1 + 1 + 1 + 1 + 1 + 1 + 1 + 1 + 1), .ref (n + 1 + 1 + 1 + 1 + 1 + 1 + 1 + 1 + 1 + 1 + 1 + 1 + 1), .ref (n + 1 + 1 + 1 + 1 + 1 + 1 + 1 + 1 + 1 + 1 + 1 + 1 + 1 + 1), .ref (n + 1 + 1 + 1 + 1 + 1 + 1 + 1 + 1 + 1 + 1 + 1 + 1 + 1 + 1 + 1), .ref (n + 1 + 1 + 1 + 1 + 1 + 1 + 1 + 1 + 1 + 1 + 1 + 1 + 1 + 1 + 1 + 1), .null, .null, .null, .null, .null, .int 0, .int 0]) := (e35 _ (by omega)).trans f34_0
  have f35_1 : h35 n = some (true, 3, List.replicate 6 (.int 0)) := (e35 _ (by omega)).trans f34_1
  have f35_2 : h35 (n + 1) = some (true, 3, List.replicate 6 (.int 0)) := (e35 _ (by omega)).trans f34_2
  have f35_3 : h35 (n + 1 + 1) = some (true, 2, List.replicate 6 (.double FP.dconst0)) := (e35 _ (by omega)).trans f34_3
  have f35_4 : h35 (n + 1 + 1 + 1) = some (true, 0, List.replicate 6 (.int 0)) := (e35 _ (by omega)).trans f34_4
  have f35_5 : h35 (n + 1 + 1 + 1 + 1) = some (true, 0, List.replicate 6 (.int 0)) := (e35 _ (by omega)).trans f34_5
  have f35_6 : h35 (n + 1 + 1 + 1 + 1 + 1) = some (true, 0, List.replicate 6 (.int 0)) := (e35 _ (by omega)).trans f34_6
  have f35_7 : h35 (n + 1 + 1 + 1 + 1 + 1 + 1) = some (true, 2, List.replicate 6 (.double FP.dconst0)) := (e35 _ (by omega)).trans f34_7
  have f35_8 : h35 (n + 1 + 1 + 1 + 1 + 1 + 1 + 1) = some (true, 2, List.replicate 6 (.double FP.dconst0)) := (e35 _ (by omega)).trans f34_8
  have f35_9 : h35 (n + 1 + 1 + 1 + 1 + 1 + 1 + 1 + 1) = some (true, 0, List.replicate 6 (.int 0)) := (e35 _ (by omega)).trans f34_9
  have f35_10 : h35 (n + 1 + 1 + 1 + 1 + 1 + 1 + 1 + 1 + 1) = some (true, 0, List.replicate 6 (.int 0)) := (e35 _ (by omega)).trans f34_10
  have f35_11 : h35 (n + 1 + 1 + 1 + 1 + 1 + 1 + 1 + 1 + 1 + 1) = some (true, 0, List.replicate 8 (.int 0)) := (e35 _ (by omega)).trans f34_11
  have f35_12 : h35 (n + 1 + 1 + 1 + 1 + 1 + 1 + 1 + 1 + 1 + 1 + 1) = some (true, 0, List.replicate 8 (.int 0)) := (e35 _ (by omega)).trans f34_12
  have f35_13 : h35 (n + 1 + 1 + 1 + 1 + 1 + 1 + 1 + 1 + 1 + 1 + 1 + 1) = some (true, 0, List.replicate 8 (.int 0)) := (e35 _ (by omega)).trans f34_13
  have f35_14 : h35 (n + 1 + 1 + 1 + 1 + 1 + 1 + 1 + 1 + 1 + 1 + 1 + 1 + 1) = some (true, 0, List.replicate 8 (.int 0)) := (e35 _ (by omega)).trans f34_14
  have f35_15 : h35 (n + 1 + 1 + 1 + 1 + 1 + 1 + 1 + 1 + 1 + 1 + 1 + 1 + 1 + 1) = some (true, 0, List.replicate 8 (.int 0)) := (e35 _ (by omega)).trans f34_15
  have f35_16 : h35 (n + 1 + 1 + 1 + 1 + 1 + 1 + 1 + 1 + 1 + 1 + 1 + 1 + 1 + 1 + 1) = some (true, 0, List.replicate 48 (.int 0)) := (e35 _ (by omega)).trans f34_16
  have f35_17 : h35 (n + 1 + 1 + 1 + 1 + 1 + 1 + 1 + 1 + 1 + 1 + 1 + 1 + 1 + 1 + 1 + 1) = some (true, 0, List.replicate 48 (.int 0)) := (e35 _ (by omega)).trans f34_17
  have f35_18 : h35 (n + 1 + 1 + 1 + 1 + 1 + 1 + 1 + 1 + 1 + 1 + 1 + 1 + 1 + 1 + 1 + 1 + 1) = some (true, 0, List.replicate 8 (.int 0)) := g35
  have w35 : ∀ q, q < n → q ≠ a → h35 q = h q := fun q hq na => (e35 q (by omega)).trans (w34 q hq na)
  refine sx_o (q := a) (o := (false, 9, [.int 0, .ref n, .ref (n + 1), .ref (n + 1 + 1), .ref (n + 1 + 1 + 1), .ref (n + 1 + 1 + 1 + 1), .ref (n + 1 + 1 + 1 + 1 + 1), .ref (n + 1 + 1 + 1 + 1 + 1 + 1), .ref (n + 1 + 1 + 1 + 1 + 1 + 1 + 1), .ref (n + 1 + 1 + 1 + 1 + 1 + 1 + 1 + 1), .ref (n + 1 + 1 + 1 + 1 + 1 + 1 + 1 + 1 + 1), .double FP.dconst0, .ref (n + 1 + 1 + 1 + 1 + 1 + 1 + 1 + 1 + 1 + 1), .ref (n + 1 + 1 + 1 + 1 + 1 + 1 + 1 + 1 + 1 + 1 + 1), .ref (n + 1 + 1 + 1 + 1 + 1 + 1 + 1 + 1 + 1 + 1 + 1 + 1), .ref (n + 1 + 1 + 1 + 1 + 1 + 1 + 1 + 1 + 1 + 1 + 1 + 1 + 1), .ref (n + 1 + 1 + 1 + 1 + 1 + 1 + 1 + 1 + 1 + 1 + 1 + 1 + 1 + 1), .ref (n + 1 + 1 + 1 + 1 + 1 + 1 + 1 + 1 + 1 + 1 + 1 + 1 + 1 + 1 + 1), .ref (n + 1 + 1 + 1 + 1 + 1 + 1 + 1 + 1 + 1 + 1 + 1 + 1 + 1 + 1 + 1 + 1), .ref (n + 1 + 1 + 1 + 1 + 1 + 1 + 1 + 1 + 1 + 1 + 1 + 1 + 1 + 1 + 1 + 1 + 1), .null, .null, .null, .null, .int 0, .int 0])) (fun Z k => sh_putF (k := 19) dc_Mod_init_145 f35_0 rfl (by decide) wd_881 rfl rfl rfl pd_AI rfl rfl k) ?_
  intro h36 g36 e36
  have f36_1 : h36 n = some (true, 3, List.replicate 6 (.int 0)) := (e36 _ (by omega)).trans f35_1
  have f36_2 : h36 (n + 1) = some (true, 3, List.replicate 6 (.int 0)) := (e36 _ (by omega)).trans f35_2
  have f36_3 : h36 (n + 1 + 1) = some (true, 2, List.replicate 6 (.double FP.dconst0)) := (e36 _ (by omega)).trans f35_3
  have f36_4 : h36 (n + 1 + 1 + 1) = some (true, 0, List.replicate 6 (.int 0)) := (e36 _ (by omega)).trans f35_4
  have f36_5 : h36 (n + 1 + 1 + 1 + 1) = some (true, 0, List.replicate 6 (.int 0)) := (e36 _ (by omega)).trans f35_5
  have f36_6 : h36 (n + 1 + 1 + 1 + 1 + 1) = some (true, 0, List.replicate 6 (.int 0)) := (e36 _ (by omega)).trans f35_6
  have f36_7 : h36 (n + 1 + 1 + 1 + 1 + 1 + 1) = some (true, 2, List.replicate 6 (.double FP.dconst0)) := (e36 _ (by omega)).trans f35_7
  have f36_8 : h36 (n + 1 + 1 + 1 + 1 + 1 + 1 + 1) = some (true, 2, List.replicate 6 (.double FP.dconst0)) := (e36 _ (by omega)).trans f35_8
  have f36_9 : h36 (n + 1 + 1 + 1 + 1 + 1 + 1 + 1 + 1) = some (true, 0, List.replicate 6 (.int 0)) := (e36 _ (by omega)).trans f35_9
  have f36_10 : h36 (n + 1 + 1 + 1 + 1 + 1 + 1 + 1 + 1 + 1) = some (true, 0, List.replicate 6 (.int 0)) := (e36 _ (by omega)).trans f35_10
  have f36_11 : h36 (n + 1 + 1 + 1 + 1 + 1 + 1 + 1 + 1 + 1 + 1) = some (true, 0, List.replicate 8 (.int 0)) := (e36 _ (by omega)).trans f35_11
  have f36_12 : h36 (n + 1 + 1 + 1 + 1 + 1 + 1 + 1 + 1 + 1 + 1 + 1) = some (true, 0, List.replicate 8 (.int 0)) := (e36 _ (by omega)).trans f35_12
  have f36_13 : h36 (n + 1 + 1 + 1 + 1 + 1 + 1 + 1 + 1 + 1 + 1 + 1 + 1) = some (true, 0, List.replicate 8 (.int 0)) := (e36 _ (by omega)).trans f35_13
  have f36_14 : h36 (n + 1 + 1 + 1 + 1 + 1 + 1 + 1 + 1 + 1 + 1 + 1 + 1 + 1) = some (true, 0, List.replicate 8 (.int 0)) := (e36 _ (by omega)).trans f35_14
  have f36_15 : h36 (n + 1 + 1 + 1 + 1 + 1 + 1 + 1 + 1 + 1 + 1 + 1 + 1 + 1 + 1) = some (true, 0, List.replicate 8 (.int 0)) := (e36 _ (by omega)).trans f35_15
  have f36_16 : h36 (n + 1 + 1 + 1 + 1 + 1 + 1 + 1 + 1 + 1 + 1 + 1 + 1 + 1 + 1 + 1) = some (true, 0, List.replicate 48 (.int 0)) := (e36 _ (by omega)).trans f35_16
  have f36_17 : h36 (n + 1 + 1 + 1 + 1 + 1 + 1 + 1 + 1 + 1 + 1 + 1 + 1 + 1 + 1 + 1 + 1) = some (true, 0, List.replicate 48 (.int 0)) := (e36 _ (by omega)).trans f35_17
  have f36_18 : h36 (n + 1 + 1 + 1 + 1 + 1 + 1 + 1 + 1 + 1 + 1 + 1 + 1 + 1 + 1 + 1 + 1 + 1) = some (true, 0, List.replicate 8 (.int 0)) := (e36 _ (by omega)).trans f35_18
  have f36_0 : h36 a = some (false, 9, [.int 0, .ref n, .ref (n + 1), .ref (n + 1 + 1), .ref (n + 1 + 1 + 1), .ref (n + 1 + 1 + 1 + 1), .ref (n + 1 + 1 + 1 + 1 + 1), .ref (n + 1 + 1 + 1 + 1 + 1 + 1), .ref (n + 1 + 1 + 1 + 1 + 1 + 1 + 1), .ref (n + 1 + 1 + 1 + 1 + 1 + 1 + 1 + 1), .ref (n + 1 + 1 + 1 + 1 + 1 + 1 + 1 + 1 + 1), .double FP.dconst0, .ref (n + 1 + 1 + 1 + 1 + 1 + 1 + 1 + 1 + 1 + 1), .ref (n + 1 + 1 + 1 + 1 + 1 + 1 + 1 + 1 + 1 + 1 + 1), .ref (n + 1 + 1 + 1 + 1 + 1 + 1 + 1 + 1 + 1 + 1 + 1 + 1), .ref (n + 1 + 1 + 1 + 1 + 1 + 1 + 1 + 1 + 1 + 1 + 1 + 1 + 1), .ref (n + 1 + 1 + 1 + 1 + 1 + 1 + 1 + 1 + 1 + 1 + 1 + 1 + 1 + 1), .ref (n + 1 + 1 + 1 + 1 + 1 + 1 + 1 + 1 + 1 + 1 + 1 + 1 + 1 + 1 + 1), .ref (n + 1 + 1 + 1 + 1 + 1 + 1 + 1 + 1 + 1 + 1 + 1 + 1 + 1 + 1 + 1 + 1), .ref (n + 1 + 1 + 1 + 1 + 1 + 1 + 1 + 1 + 1 + 1 + 1 + 1 + 1 + 1 + 1 + 1 + 1), .null, .null, .null, .null, .int 0, .int 0]) := g36
  have w36 : ∀ q, q < n → q ≠ a → h36 q = h q := fun q hq na => (e36 q (by omega)).trans (w35 q hq na)
  refine sx_p (fun Z k => sh_aload_n dc_Mod_init_148 rfl rfl k) ?_
  refine sx_p (fun Z k => sh_bipush (v := 8) dc_Mod_init_149 (by decide) k) ?_
  refine sx_n (o := (true, 2, List.replicate 8 (.double FP.dconst0))) (fun Z k => sh_newa (N := 8) dc_Mod_init_151 rfl (ti := 2) rfl (fun U cA q => q) wd_942 (by decide) (by decide) (by decide) (by decide) (by decide) k) ?_
  intro h37 g37 e37
  have f37_0 : h37 a = some (false, 9, [.int 0, .ref n, .ref (n + 1), .ref (n + 1 + 1), .ref (n + 1 + 1 + 1), .ref (n + 1 + 1 + 1 + 1), .ref (n + 1 + 1 + 1 + 1 + 1), .ref (n + 1 + 1 + 1 + 1 + 1 + 1), .ref (n + 1 + 1 + 1 + 1 + 1 + 1 + 1), .ref (n + 1 + 1 + 1 + 1 + 1 + 1 + 1 + 1), .ref (n + 1 + 1 + 1 + 1 + 1 + 1 + 1 + 1 + 1), .double FP.dconst0, .ref (n + 1 + 1 + 1 + 1 + 1 + 1 + 1 + 1 + 1 + 1), .ref (n + 1 + 1 + 1 + 1 + 1 + 1 + 1 + 1 + 1 + 1 + 1), .ref (n + 1 + 1 + 1 + 1 + 1 + 1 + 1 + 1 + 1 + 1 + 1 + 1), .ref (n + 1 + 1 + 1 + 1 + 1 + 1 + 1 + 1 + 1 + 1 + 1 + 1 + 1), .ref (n + 1 + 1 + 1 + 1 + 1 + 1 + 1 + 1 + 1 + 1 + 1 + 1 + 1 + 1), .ref (n + 1 + 1 + 1 + 1 + 1 + 1 + 1 + 1 + 1 + 1 + 1 + 1 + 1 + 1 + 1), .ref (n + 1 + 1 + 1 + 1 + 1 + 1 + 1 + 1 + 1 + 1 + 1 + 1 + 1 + 1 + 1 + 1), .ref (n + 1 + 1 + 1 + 1 + 1 + 1 + 1 + 1 + 1 + 1 + 1 + 1 + 1 + 1 + 1 + 1 + 1), .null, .null, .null, .null, .int 0, .int 0]) := (e37 _ (by omega)).trans f36_0
  have f37_1 : h37 n = some (true, 3, List.replicate 6 (.int 0)) := (e37 _ (by omega)).trans f36_1
  have f37_2 : h37 (n + 1) = some (true, 3, List.replicate 6 (.int 0)) := (e37 _ (by omega)).trans f36_2
  have f37_3 : h37 (n + 1 + 1) = some (true, 2, List.replicate 6 (.double FP.dconst0)) := (e37 _ (by omega)).trans f36_3
  have f37_4 : h37 (n + 1 + 1 + 1) = some (true, 0, List.replicate 6 (.int 0)) := (e37 _ (by omega)).trans f36_4
  have f37_5 : h37 (n + 1 + 1 + 1 + 1) = some (true, 0, List.replicate 6 (.int 0)) := (e37 _ (by omega)).trans f36_5
  have f37_6 : h37 (n + 1 + 1 + 1 + 1 + 1) = some (true, 0, List.replicate 6 (.int 0)) := (e37 _ (by omega)).trans f36_6
  have f37_7 : h37 (n + 1 + 1 + 1 + 1 + 1 + 1) = some (true, 2, List.replicate 6 (.double FP.dconst0)) := (e37 _ (by omega)).trans f36_7
  have f37_8 : h37 (n + 1 + 1 + 1 + 1 + 1 + 1 + 1) = some (true, 2, List.replicate 6 (.double FP.dconst0)) := (e37 _ (by omega)).trans f36_8
  have f37_9 : h37 (n + 1 + 1 + 1 + 1 + 1 + 1 + 1 + 1) = some (true, 0, List.replicate 6 (.int 0)) := (e37 _ (by omega)).trans f36_9
  have f37_10 : h37 (n + 1 + 1 + 1 + 1 + 1 + 1 + 1 + 1 + 1) = some (true, 0, List.replicate 6 (.int 0)) := (e37 _ (by omega)).trans f36_10
  have f37_11 : h37 (n + 1 + 1 + 1 + 1 + 1 + 1 + 1 + 1 + 1 + 1) = some (true, 0, List.replicate 8 (.int 0)) := (e37 _ (by omega)).trans f36_11
  have f37_12 : h37 (n + 1 + 1 + 1 + 1 + 1 + 1 + 1 + 1 + 1 + 1 + 1) = some (true, 0, List.replicate 8 (.int 0)) := (e37 _ (by omega)).trans f36_12
  have f37_13 : h37 (n + 1 + 1 + 1 + 1 + 1 + 1 + 1 + 1 + 1 + 1 + 1 + 1) = some (true, 0, List.replicate 8 (.int 0)) := (e37 _ (by omega)).trans f36_13
  have f37_14 : h37 (n + 1 + 1 + 1 + 1 + 1 + 1 + 1 + 1 + 1 + 1 + 1 + 1 + 1) = some (true, 0, List.replicate 8 (.int 0)) := (e37 _ (by omega)).trans f36_14
  have f37_15 : h37 (n + 1 + 1 + 1 + 1 + 1 + 1 + 1 + 1 + 1 + 1 + 1 + 1 + 1 + 1) = some (true, 0, List.replicate 8 (.int 0)) := (e37 _ (by omega)).trans f36_15
  have f37_16 : h37 (n + 1 + 1 + 1 + 1 + 1 + 1 + 1 + 1 + 1 + 1 + 1 + 1 + 1 + 1 + 1) = some (true, 0, List.replicate 48 (.int 0)) := (e37 _ (by omega)).trans f36_16
  have f37_17 : h37 (n + 1 + 1 + 1 + 1 + 1 + 1 + 1 + 1 + 1 + 1 + 1 + 1 + 1 + 1 + 1 + 1) = some (true, 0, List.replicate 48 (.int 0)) := (e37 _ (by omega)).trans f36_17
  have f37_18 : h37 (n + 1 + 1 + 1 + 1 + 1 + 1 + 1 + 1 + 1 + 1 + 1 + 1 + 1 + 1 + 1 + 1 + 1) = some (true, 0, List.replicate 8 (.int 0)) := (e37 _ (by omega)).trans f36_18
  have f37_19 : h37 (n + 1 + 1 + 1 + 1 + 1 + 1 + 1 + 1 + 1 + 1 + 1 + 1 + 1 + 1 + 1 + 1 + 1 + 1) = some (true, 2, List.replicate 8 (.double FP.dconst0)) := g37
  have w37 : ∀ q, q < n → q ≠ a → h37 q = h q := fun q hq na => (e37 q (by omega)).trans (w36 q hq na)
  refine sx_o (q := a) (o := (false, 9, [.int 0, .ref n, .ref (n + 1), .ref (n + 1 + 1), .ref (n + 1 + 1 + 1), .ref (n + 1 + 1 + 1 + 1), .ref (n + 1 + 1 + 1 + 1 + 1), .ref (n + 1 + 1 + 1 + 1 + 1 + 1), .ref (n + 1 + 1 + 1 + 1 + 1 + 1 + 1), .ref (n + 1 + 1 + 1 + 1 + 1 + 1 + 1 + 1), .ref (n + 1 + 1 + 1 + 1 + 1 + 1 + 1 + 1 + 1), .double FP.dconst0, .ref (n + 1 + 1 + 1 + 1 + 1 + 1 + 1 + 1 + 1 + 1), .ref (n + 1 + 1 + 1 + 1 + 1 + 1 + 1 + 1 + 1 + 1 + 1), .ref (n + 1 + 1 + 1 + 1 + 1 + 1 + 1 + 1 + 1 + 1 + 1 + 1), .ref (n + 1 + 1 + 1 + 1 + 1 + 1 + 1 + 1 + 1 + 1 + 1 + 1 + 1), .ref (n + 1 + 1 + 1 + 1 + 1 + 1 + 1 + 1 + 1 + 1 + 1 + 1 + 1 + 1), .ref (n + 1 + 1 + 1 + 1 + 1 + 1 + 1 + 1 + 1 + 1 + 1 + 1 + 1 + 1 + 1), .ref (n + 1 + 1 + 1 + 1 + 1 + 1 + 1 + 1 + 1 + 1 + 1 + 1 + 1 + 1 + 1 + 1), .ref (n + 1 + 1 + 1 + 1 + 1 + 1 + 1 + 1 + 1 + 1 + 1 + 1 + 1 + 1 + 1 + 1 + 1), .ref (n + 1 + 1 + 1 + 1 + 1 + 1 + 1 + 1 + 1 + 1 + 1 + 1 + 1 + 1 + 1 + 1 + 1 + 1), .null, .null, .null, .int 0, .int 0])) (fun Z k => sh_putF (k := 20) dc_Mod_init_153 f37_0 rfl (by decide) wd_882 rfl rfl rfl pd_AD rfl rfl k) ?_
  intro h38 g38 e38
  have f38_1 : h38 n = some (true, 3, List.replicate 6 (.int 0)) := (e38 _ (by omega)).trans f37_1
  have f38_2 : h38 (n + 1) = some (true, 3, List.replicate 6 (.int 0)) := (e38 _ (by omega)).trans f37_2
  have f38_3 : h38 (n + 1 + 1) = some (true, 2, List.replicate 6 (.double FP.dconst0)) := (e38 _ (by omega)).trans f37_3
  have f38_4 : h38 (n + 1 + 1 + 1) = some (true, 0, List.replicate 6 (.int 0)) := (e38 _ (by omega)).trans f37_4
  have f38_5 : h38 (n + 1 + 1 + 1 + 1) = some (true, 0, List.replicate 6 (.int 0)) := (e38 _ (by omega)).trans f37_5
  have f38_6 : h38 (n + 1 + 1 + 1 + 1 + 1) = some (true, 0, List.replicate 6 (.int 0)) := (e38 _ (by omega)).trans f37_6
  have f38_7 : h38 (n + 1 + 1 + 1 + 1 + 1 + 1) = some (true, 2, List.replicate 6 (.double FP.dconst0)) := (e38 _ (by omega)).trans f37_7
  have f38_8 : h38 (n + 1 + 1 + 1 + 1 + 1 + 1 + 1) = some (true, 2, List.replicate 6 (.double FP.dconst0)) := (e38 _ (by omega)).trans f37_8
  have f38_9 : h38 (n + 1 + 1 + 1 + 1 + 1 + 1 + 1 + 1) = some (true, 0, List.replicate 6 (.int 0)) := (e38 _ (by omega)).trans f37_9
  have f38_10 : h38 (n + 1 + 1 + 1 + 1 + 1 + 1 + 1 + 1 + 1) = some (true, 0, List.replicate 6 (.int 0)) := (e38 _ (by omega)).trans f37_10
  have f38_11 : h38 (n + 1 + 1 + 1 + 1 + 1 + 1 + 1 + 1 + 1 + 1) = some (true, 0, List.replicate 8 (.int 0)) := (e38 _ (by omega)).trans f37_11
  have f38_12 : h38 (n + 1 + 1 + 1 + 1 + 1 + 1 + 1 + 1 + 1 + 1 + 1) = some (true, 0, List.replicate 8 (.int 0)) := (e38 _ (by omega)).trans f37_12
  have f38_13 : h38 (n + 1 + 1 + 1 + 1 + 1 + 1 + 1 + 1 + 1 + 1 + 1 + 1) = some (true, 0, List.replicate 8 (.int 0)) := (e38 _ (by omega)).trans f37_13
  have f38_14 : h38 (n + 1 + 1 + 1 + 1 + 1 + 1 + 1 + 1 + 1 + 1 + 1 + 1 + 1) = some (true, 0, List.replicate 8 (.int 0)) := (e38 _ (by omega)).trans f37_14
  have f38_15 : h38 (n + 1 + 1 + 1 + 1 + 1 + 1 + 1 + 1 + 1 + 1 + 1 + 1 + 1 + 1) = some (true, 0, List.replicate 8 (.int 0)) := (e38 _ (by omega)).trans f37_15
  have f38_16 : h38 (n + 1 + 1 + 1 + 1 + 1 + 1 + 1 + 1 + 1 + 1 + 1 + 1 + 1 + 1 + 1) = some (true, 0, List.replicate 48 (.int 0)) := (e38 _ (by omega)).trans f37_16
  have f38_17 : h38 (n + 1 + 1 + 1 + 1 + 1 + 1 + 1 + 1 + 1 + 1 + 1 + 1 + 1 + 1 + 1 + 1) = some (true, 0, List.replicate 48 (.int 0)) := (e38 _ (by omega)).trans f37_17
  have f38_18 : h38 (n + 1 + 1 + 1 + 1 + 1 + 1 + 1 + 1 + 1 + 1 + 1 + 1 + 1 + 1 + 1 + 1 + 1) = some (true, 0, List.replicate 8 (.int 0)) := (e38 _ (by omega)).trans f37_18
  have f38_19 : h38 (n + 1 + 1 + 1 + 1 + 1 + 1 + 1 + 1 + 1 + 1 + 1 + 1 + 1 + 1 + 1 + 1 + 1 + 1) = some (true, 2, List.replicate 8 (.double FP.dconst0)) := (e38 _ (by omega)).trans f37_19
  have f38_0 : h38 a = some (false, 9, [.int 0, .ref n, .ref (n + 1), .ref (n + 1 + 1), .ref (n + 1 + 1 + 1), .ref (n + 1 + 1 + 1 + 1), .ref (n + 1 + 1 + 1 + 1 + 1), .ref (n + 1 + 1 + 1 + 1 + 1 + 1), .ref (n + 1 + 1 + 1 + 1 + 1 + 1 + 1), .ref (n + 1 + 1 + 1 + 1 + 1 + 1 + 1 + 1), .ref (n + 1 + 1 + 1 + 1 + 1 + 1 + 1 + 1 + 1), .double FP.dconst0, .ref (n + 1 + 1 + 1 + 1 + 1 + 1 + 1 + 1 + 1 + 1), .ref (n + 1 + 1 + 1 + 1 + 1 + 1 + 1 + 1 + 1 + 1 + 1), .ref (n + 1 + 1 + 1 + 1 + 1 + 1 + 1 + 1 + 1 + 1 + 1 + 1), .ref (n + 1 + 1 + 1 + 1 + 1 + 1 + 1 + 1 + 1 + 1 + 1 + 1 + 1), .ref (n + 1 + 1 + 1 + 1 + 1 + 1 + 1 + 1 + 1 + 1 + 1 + 1 + 1 + 1), .ref (n + 1 + 1 + 1 + 1 + 1 + 1 + 1 + 1 + 1 + 1 + 1 + 1 + 1 + 1 + 1), .ref (n + 1 + 1 + 1 + 1 + 1 + 1 + 1 + 1 + 1 + 1 + 1 + 1 + 1 + 1 + 1 + 1), .ref (n + 1 + 1 + 1 + 1 + 1 + 1 + 1 + 1 + 1 + 1 + 1 + 1 + 1 + 1 + 1 + 1 + 1), .ref (n + 1 + 1 + 1 + 1 + 1 + 1 + 1 + 1 + 1 + 1 + 1 + 1 + 1 + 1 + 1 + 1 + 1 + 1), .null, .null, .null, .int 0, .int 0]) := g38
  have w38 : ∀ q, q < n → q ≠ a → h38 q = h q := fun q hq na => (e38 q (by omega)).trans (w37 q hq na)
  refine sx_p (fun Z k => sh_aload_n dc_Mod_init_156 rfl rfl k) ?_
  refine sx_p (fun Z k => sh_bipush (v := 8) dc_Mod_init_157 (by decide) k) ?_
  refine sx_n (o := (true, 0, List.replicate 8 (.int 0))) (fun Z k => sh_newa (N := 8) dc_Mod_init_159 rfl (ti := 0) rfl (fun U cA q => q) wd_159 (by decide) (by decide) (by decide) (by decide) (by decide) k) ?_
  intro h39 g39 e39
  have f39_0 : h39 a = some (false, 9, [.int 0, .ref n, .ref (n + 1), .ref (n + 1 + 1), .ref (n + 1 + 1 + 1), .ref (n + 1 + 1 + 1 + 1), .ref (n + 1 + 1 + 1 + 1 + 1), .ref (n + 1 + 1 + 1 + 1 + 1 + 1), .ref (n + 1 + 1 + 1 + 1 + 1 + 1 + 1), .ref (n + 1 + 1 + 1 + 1 + 1 + 1 + 1 + 1), .ref (n + 1 + 1 + 1 + 1 + 1 + 1 + 1 + 1 + 1), .double FP.dconst0, .ref (n + 1 + 1 + 1 + 1 + 1 + 1 + 1 + 1 + 1 + 1), .ref (n + 1 + 1 + 1 + 1 + 1 + 1 + 1 + 1 + 1 + 1 + 1), .ref (n + 1 + 1 + 1 + 1 + 1 + 1 + 1 + 1 + 1 + 1 + 1 + 1), .ref (n + 1 + 1 + 1 + 1 + 1 + 1 + 1 + 1 + 1 + 1 + 1 + 1 + 1), .ref (n + 1 + 1 + 1 + 1 + 1 + 1 + 1 + 1 + 1 + 1 + 1 + 1 + 1 + 1), .ref (n + 1 + 1 + 1 + 1 + 1 + 1 + 1 + 1 + 1 + 1 + 1 + 1 + 1 + 1 + 1), .ref (n + 1 + 1 + 1 + 1 + 1 + 1 + 1 + 1 + 1 + 1 + 1 + 1 + 1 + 1 + 1 + 1), .ref (n + 1 + 1 + 1 + 1 + 1 + 1 + 1 + 1 + 1 + 1 + 1 + 1 + 1 + 1 + 1 + 1 + 1), .ref (n + 1 + 1 + 1 + 1 + 1 + 1 + 1 + 1 + 1 + 1 + 1 + 1 + 1 + 1 + 1 + 1 + 1 + 1), .null, .null, .null, .int 0, .int 0]) := (e39 _ (by omega)).trans f38_0
  have f39_1 : h39 n = some (true, 3, List.replicate 6 (.int 0)) := (e39 _ (by omega)).trans f38_1
  have f39_2 : h39 (n + 1) = some (true, 3, List.replicate 6 (.int 0)) := (e39 _ (by omega)).trans f38_2
  have f39_3 : h39 (n + 1 + 1) = some (true, 2, List.replicate 6 (.double FP.dconst0)) := (e39 _ (by omega)).trans f38_3
  have f39_4 : h39 (n + 1 + 1 + 1) = some (true, 0, List.replicate 6 (.int 0)) := (e39 _ (by omega)).trans f38_4
  have f39_5 : h39 (n + 1 + 1 + 1 + 1) = some (true, 0, List.replicate 6 (.int 0)) := (e39 _ (by omega)).trans f38_5
  have f39_6 : h39 (n + 1 + 1 + 1 + 1 + 1) = some (true, 0, List.replicate 6 (.int 0)) := (e39 _ (by omega)).trans f38_6
  have f39_7 : h39 (n + 1 + 1 + 1 + 1 + 1 + 1) = some (true, 2, List.replicate 6 (.double FP.dconst0)) := (e39 _ (by omega)).trans f38_7
  have f39_8 : h39 (n + 1 + 1 + 1 + 1 + 1 + 1 + 1) = some (true, 2, List.replicate 6 (.double FP.dconst0)) := (e39 _ (by omega)).trans f38_8
  have f39_9 : h39 (n + 1 + 1 + 1 + 1 + 1 + 1 + 1 + 1) = some (true, 0, List.replicate 6 (.int 0)) := (e39 _ (by omega)).trans f38_9
  have f39_10 : h39 (n + 1 + 1 + 1 + 1 + 1 + 1 + 1 + 1 + 1) = some (true, 0, List.replicate 6 (.int 0)) := (e39 _ (by omega)).trans f38_10
  have f39_11 : h39 (n + 1 + 1 + 1 + 1 + 1 + 1 + 1 + 1 + 1 + 1) = some (true, 0, List.replicate 8 (.int 0)) := (e39 _ (by omega)).trans f38_11
  have f39_12 : h39 (n + 1 + 1 + 1 + 1 + 1 + 1 + 1 + 1 + 1 + 1 + 1) = some (true, 0, List.replicate 8 (.int 0)) := (e39 _ (by omega)).trans f38_12
  have f39_13 : h39 (n + 1 + 1 + 1 + 1 + 1 + 1 + 1 + 1 + 1 + 1 + 1 + 1) = some (true, 0, List.replicate 8 (.int 0)) := (e39 _ (by omega)).trans f38_13
  have f39_14 : h39 (n + 1 + 1 + 1 + 1 + 1 + 1 + 1 + 1 + 1 + 1 + 1 + 1 + 1) = some (true, 0, List.replicate 8 (.int 0)) := (e39 _ (by omega)).trans f38_14
  have f39_15 : h39 (n + 1 + 1 + 1 + 1 + 1 + 1 + 1 + 1 + 1 + 1 + 1 + 1 + 1 + 1) = some (true, 0, List.replicate 8 (.int 0)) := (e39 _ (by omega)).trans f38_15
  have f39_16 : h39 (n + 1 + 1 + 1 + 1 + 1 + 1 + 1 + 1 + 1 + 1 + 1 + 1 + 1 + 1 + 1) = some (true, 0, List.replicate 48 (.int 0)) := (e39 _ (by omega)).trans f38_16
  have f39_17 : h39 (n + 1 + 1 + 1 + 1 + 1 + 1 + 1 + 1 + 1 + 1 + 1 + 1 + 1 + 1 + 1 + 1) = some (true, 0, List.replicate 48 (.int 0)) := (e39 _ (by omega)).trans f38_17
  have f39_18 : h39 (n + 1 + 1 + 1 + 1 + 1 + 1 + 1 + 1 + 1 + 1 + 1 + 1 + 1 + 1 + 1 + 1 + 1) = some (true, 0, List.replicate 8 (.int 0)) := (e39 _ (by omega)).trans f38_18
  have f39_19 : h39 (n + 1 + 1 + 1 + 1 + 1 + 1 + 1 + 1 + 1 + 1 + 1 + 1 + 1 + 1 + 1 + 1 + 1 + 1) = some (true, 2, List.replicate 8 (.double FP.dconst0)) := (e39 _ (by omega)).trans f38_19
  have f39_20 : h39 (n + 1 + 1 + 1 + 1 + 1 + 1 + 1 + 1 + 1 + 1 + 1 + 1 + 1 + 1 + 1 + 1 + 1 + 1 + 1) = some (true, 0, List.replicate 8 (.int 0)) := g39
  have w39 : ∀ q, q < n → q ≠ a → h39 q = h q := fun q hq na => (e39 q (by omega)).trans (w38 q hq na)
  refine sx_o (q := a) (o := (false, 9, [.int 0, .ref n, .ref (n + 1), .ref (n + 1 + 1), .ref (n + 1 + 1 + 1), .ref (n + 1 + 1 + 1 + 1), .ref (n + 1 + 1 + 1 + 1 + 1), .ref (n + 1 + 1 + 1 + 1 + 1 + 1), .ref (n + 1 + 1 + 1 + 1 + 1 + 1 + 1), .ref (n + 1 + 1 + 1 + 1 + 1 + 1 + 1 + 1), .ref (n + 1 + 1 + 1 + 1 + 1 + 1 + 1 + 1 + 1), .double FP.dconst0, .ref (n + 1 + 1 + 1 + 1 + 1 + 1 + 1 + 1 + 1 + 1), .ref (n + 1 + 1 + 1 + 1 + 1 + 1 + 1 + 1 + 1 + 1 + 1), .ref (n + 1 + 1 + 1 + 1 + 1 + 1 + 1 + 1 + 1 + 1 + 1 + 1), .ref (n + 1 + 1 + 1 + 1 + 1 + 1 + 1 + 1 + 1 + 1 + 1 + 1 + 1), .ref (n + 1 + 1 + 1 + 1 + 1 + 1 + 1 + 1 + 1 + 1 + 1 + 1 + 1 + 1), .ref (n + 1 + 1 + 1 + 1 + 1 + 1 + 1 + 1 + 1 + 1 + 1 + 1 + 1 + 1 + 1), .ref (n + 1 + 1 + 1 + 1 + 1 + 1 + 1 + 1 + 1 + 1 + 1 + 1 + 1 + 1 + 1 + 1), .ref (n + 1 + 1 + 1 + 1 + 1 + 1 + 1 + 1 + 1 + 1 + 1 + 1 + 1 + 1 + 1 + 1 + 1), .ref (n + 1 + 1 + 1 + 1 + 1 + 1 + 1 + 1 + 1 + 1 + 1 + 1 + 1 + 1 + 1 + 1 + 1 + 1), .ref (n + 1 + 1 + 1 + 1 + 1 + 1 + 1 + 1 + 1 + 1 + 1 + 1 + 1 + 1 + 1 + 1 + 1 + 1 + 1), .null, .null, .int 0, .int 0])) (fun Z k => sh_putF (k := 21) dc_Mod_init_161 f39_0 rfl (by decide) wd_883 rfl rfl rfl pd_AI rfl rfl k) ?_
  intro h40 g40 e40
  have f40_1 : h40 n = some (true, 3, List.replicate 6 (.int 0)) := (e40 _ (by omega)).trans f39_1
  have f40_2 : h40 (n + 1) = some (true, 3, List.replicate 6 (.int 0)) := (e40 _ (by omega)).trans f39_2
  have f40_3 : h40 (n + 1 + 1) = some (true, 2, List.replicate 6 (.double FP.dconst0)) := (e40 _ (by omega)).trans f39_3
  have f40_4 : h40 (n + 1 + 1 + 1) = some (true, 0, List.replicate 6 (.int 0)) := (e40 _ (by omega)).trans f39_4
  have f40_5 : h40 (n + 1 + 1 + 1 + 1) = some (true, 0, List.replicate 6 (.int 0)) := (e40 _ (by omega)).trans f39_5
  have f40_6 : h40 (n + 1 + 1 + 1 + 1 + 1) = some (true, 0, List.replicate 6 (.int 0)) := (e40 _ (by omega)).trans f39_6
  have f40_7 : h40 (n + 1 + 1 + 1 + 1 + 1 + 1) = some (true, 2, List.replicate 6 (.double FP.dconst0)) := (e40 _ (by omega)).trans f39_7
  have f40_8 : h40 (n + 1 + 1 + 1 + 1 + 1 + 1 + 1) = some (true, 2, List.replicate 6 (.double FP.dconst0)) := (e40 _ (by omega)).trans f39_8
  have f40_9 : h40 (n + 1 + 1 + 1 + 1 + 1 + 1 + 1 + 1) = some (true, 0, List.replicate 6 (.int 0)) := (e40 _ (by omega)).trans f39_9
  have f40_10 : h40 (n + 1 + 1 + 1 + 1 + 1 + 1 + 1 + 1 + 1) = some (true, 0, List.replicate 6 (.int 0)) := (e40 _ (by omega)).trans f39_10
  have f40_11 : h40 (n + 1 + 1 + 1 + 1 + 1 + 1 + 1 + 1 + 1 + 1) = some (true, 0, List.replicate 8 (.int 0)) := (e40 _ (by omega)).trans f39_11
  have f40_12 : h40 (n + 1 + 1 + 1 + 1 + 1 + 1 + 1 + 1 + 1 + 1 + 1) = some (true, 0, List.replicate 8 (.int 0)) := (e40 _ (by omega)).trans f39_12
  have f40_13 : h40 (n + 1 + 1 + 1 + 1 + 1 + 1 + 1 + 1 + 1 + 1 + 1 + 1) = some (true, 0, List.replicate 8 (.int 0)) := (e40 _ (by omega)).trans f39_13
  have f40_14 : h40 (n + 1 + 1 + 1 + 1 + 1 + 1 + 1 + 1 + 1 + 1 + 1 + 1 + 1) = some (true, 0, List.replicate 8 (.int 0)) := (e40 _ (by omega)).trans f39_14
  have f40_15 : h40 (n + 1 + 1 + 1 + 1 + 1 + 1 + 1 + 1 + 1 + 1 + 1 + 1 + 1 + 1) = some (true, 0, List.replicate 8 (.int 0)) := (e40 _ (by omega)).trans f39_15
  have f40_16 : h40 (n + 1 + 1 + 1 + 1 + 1 + 1 + 1 + 1 + 1 + 1 + 1 + 1 + 1 + 1 + 1) = some (true, 0, List.replicate 48 (.int 0)) := (e40 _ (by omega)).trans f39_16
  have f40_17 : h40 (n + 1 + 1 + 1 + 1 + 1 + 1 + 1 + 1 + 1 + 1 + 1 + 1 + 1 + 1 + 1 + 1) = some (true, 0, List.replicate 48 (.int 0)) := (e40 _ (by omega)).trans f39_17
  have f40_18 : h40 (n + 1 + 1 + 1 + 1 + 1 + 1 + 1 + 1 + 1 + 1 + 1 + 1 + 1 + 1 + 1 + 1 + 1) = some (true, 0, List.replicate 8 (.int 0)) := (e40 _ (by omega)).trans f39_18
  have f40_19 : h40 (n + 1 + 1 + 1 + 1 + 1 + 1 + 1 + 1 + 1 + 1 + 1 + 1 + 1 + 1 + 1 + 1 + 1 + 1) = some (true, 2, List.replicate 8 (.double FP.dconst0)) := (e40 _ (by omega)).trans f39_19
  have f40_20 : h40 (n + 1 + 1 + 1 + 1 + 1 + 1 + 1 + 1 + 1 + 1 + 1 + 1 + 1 + 1 + 1 + 1 + 1 + 1 + 1) = some (true, 0, List.replicate 8 (.int 0)) := (e40 _ (by omega)).trans f39_20
  have f40_0 : h40 a = some (false, 9, [.int 0, .ref n, .ref (n + 1), .ref (n + 1 + 1), .ref (n + 1 + 1 + 1), .ref (n + 1 + 1 + 1 + 1), .ref (n + 1 + 1 + 1 + 1 + 1), .ref (n + 1 + 1 + 1 + 1 + 1 + 1), .ref (n + 1 + 1 + 1 + 1 + 1 + 1 + 1), .ref (n + 1 + 1 + 1 + 1 + 1 + 1 + 1 + 1), .ref (n + 1 + 1 + 1 + 1 + 1 + 1 + 1 + 1 + 1), .double FP.dconst0, .ref (n + 1 + 1 + 1 + 1 + 1 + 1 + 1 + 1 + 1 + 1), .ref (n + 1 + 1 + 1 + 1 + 1 + 1 + 1 + 1 + 1 + 1 + 1), .ref (n + 1 + 1 + 1 + 1 + 1 + 1 + 1 + 1 + 1 + 1 + 1 + 1), .ref (n + 1 + 1 + 1 + 1 + 1 + 1 + 1 + 1 + 1 + 1 + 1 + 1 + 1), .ref (n + 1 + 1 + 1 + 1 + 1 + 1 + 1 + 1 + 1 + 1 + 1 + 1 + 1 + 1), .ref (n + 1 + 1 + 1 + 1 + 1 + 1 + 1 + 1 + 1 + 1 + 1 + 1 + 1 + 1 + 1), .ref (n + 1 + 1 + 1 + 1 + 1 + 1 + 1 + 1 + 1 + 1 + 1 + 1 + 1 + 1 + 1 + 1), .ref (n + 1 + 1 + 1 + 1 + 1 + 1 + 1 + 1 + 1 + 1 + 1 + 1 + 1 + 1 + 1 + 1 + 1), .ref (n + 1 + 1 + 1 + 1 + 1 + 1 + 1 + 1 + 1 + 1 + 1 + 1 + 1 + 1 + 1 + 1 + 1 + 1), .ref (n + 1 + 1 + 1 + 1 + 1 + 1 + 1 + 1 + 1 + 1 + 1 + 1 + 1 + 1 + 1 + 1 + 1 + 1 + 1), .null, .null, .int 0, .int 0]) := g40
  have w40 : ∀ q, q < n → q ≠ a → h40 q = h q := fun q hq na => (e40 q (by omega)).trans (w39 q hq na)
  refine sx_p (fun Z k => sh_aload_n dc_Mod_init_164 rfl rfl k) ?_
  refine sx_p (fun Z k => sh_bipush (v := 64) dc_Mod_init_165 (by decide) k) ?_
  refine sx_n (o := (true, 3, List.replicate 64 (.int 0))) (fun Z k => sh_newa (N := 64) dc_Mod_init_167 rfl (ti := 3) rfl (fun U cA q => q) wd_941 (by decide) (by decide) (by decide) (by decide) (by decide) k) ?_
  intro h41 g41 e41
  have f41_0 : h41 a = some (false, 9, [.int 0, .ref n, .ref (n + 1), .ref (n + 1 + 1), .ref (n + 1 + 1 + 1), .ref (n + 1 + 1 + 1 + 1), .ref (n + 1 + 1 + 1 + 1 + 1), .ref (n + 1 + 1 + 1 + 1 + 1 + 1), .ref (n + 1 + 1 + 1 + 1 + 1 + 1 + 1), .ref (n + 1 + 1 + 1 + 1 + 1 + 1 + 1 + 1), .ref (n + 1 + 1 + 1 + 1 + 1 + 1 + 1 + 1 + 1), .double FP.dconst0, .ref (n + 1 + 1 + 1 + 1 + 1 + 1 + 1 + 1 + 1 + 1), .ref (n + 1 + 1 + 1 + 1 + 1 + 1 + 1 + 1 + 1 + 1 + 1), .ref (n + 1 + 1 + 1 + 1 + 1 + 1 + 1 + 1 + 1 + 1 + 1 + 1), .ref (n + 1 + 1 + 1 + 1 + 1 + 1 + 1 + 1 + 1 + 1 + 1 + 1 + 1), .ref (n + 1 + 1 + 1 + 1 + 1 + 1 + 1 + 1 + 1 + 1 + 1 + 1 + 1 + 1), .ref (n + 1 + 1 + 1 + 1 + 1 + 1 + 1 + 1 + 1 + 1 + 1 + 1 + 1 + 1 + 1), .ref (n + 1 + 1 + 1 + 1 + 1 + 1 + 1 + 1 + 1 + 1 + 1 + 1 + 1 + 1 + 1 + 1), .ref (n + 1 + 1 + 1 + 1 + 1 + 1 + 1 + 1 + 1 + 1 + 1 + 1 + 1 + 1 + 1 + 1 + 1), .ref (n + 1 + 1 + 1 + 1 + 1 + 1 + 1 + 1 + 1 + 1 + 1 + 1 + 1 + 1 + 1 + 1 + 1 + 1), .ref (n + 1 + 1 + 1 + 1 + 1 + 1 + 1 + 1 + 1 + 1 + 1 + 1 + 1 + 1 + 1 + 1 + 1 + 1 + 1), .null, .null, .int 0, .int 0]) := (e41 _ (by omega)).trans f40_0
  have f41_1 : h41 n = some (true, 3, List.replicate 6 (.int 0)) := (e41 _ (by omega)).trans f40_1
  have f41_2 : h41 (n + 1) = some (true, 3, List.replicate 6 (.int 0)) := (e41 _ (by omega)).trans f40_2
  have f41_3 : h41 (n + 1 + 1) = some (true, 2, List.replicate 6 (.double FP.dconst0)) := (e41 _ (by omega)).trans f40_3
  have f41_4 : h41 (n + 1 + 1 + 1) = some (true, 0, List.replicate 6 (.int 0)) := (e41 _ (by omega)).trans f40_4
  have f41_5 : h41 (n + 1 + 1 + 1 + 1) = some (true, 0, List.replicate 6 (.int 0)) := (e41 _ (by omega)).trans f40_5
  have f41_6 : h41 (n + 1 + 1 + 1 + 1 + 1) = some (true, 0, List.replicate 6 (.int 0)) := (e41 _ (by omega)).trans f40_6
  have f41_7 : h41 (n + 1 + 1 + 1 + 1 + 1 + 1) = some (true, 2, List.replicate 6 (.double FP.dconst0)) := (e41 _ (by omega)).trans f40_7
  have f41_8 : h41 (n + 1 + 1 + 1 + 1 + 1 + 1 + 1) = some (true, 2, List.replicate 6 (.double FP.dconst0)) := (e41 _ (by omega)).trans f40_8
  have f41_9 : h41 (n + 1 + 1 + 1 + 1 + 1 + 1 + 1 + 1) = some (true, 0, List.replicate 6 (.int 0)) := (e41 _ (by omega)).trans f40_9
  have f41_10 : h41 (n + 1 + 1 + 1 + 1 + 1 + 1 + 1 + 1 + 1) = some (true, 0, List.replicate 6 (.int 0)) := (e41 _ (by omega)).trans f40_10
  have f41_11 : h41 (n + 1 + 1 + 1 + 1 + 1 + 1 + 1 + 1 + 1 + 1) = some (true, 0, List.replicate 8 (.int 0)) := (e41 _ (by omega)).trans f40_11
  have f41_12 : h41 (n + 1 + 1 + 1 + 1 + 1 + 1 + 1 + 1 + 1 + 1 + 1) = some (true, 0, List.replicate 8 (.int 0)) := (e41 _ (by omega)).trans f40_12
  have f41_13 : h41 (n + 1 + 1 + 1 + 1 + 1 + 1 + 1 + 1 + 1 + 1 + 1 + 1) = some (true, 0, List.replicate 8 (.int 0)) := (e41 _ (by omega)).trans f40_13
  have f41_14 : h41 (n + 1 + 1 + 1 + 1 + 1 + 1 + 1 + 1 + 1 + 1 + 1 + 1 + 1) = some (true, 0, List.replicate 8 (.int 0)) := (e41 _ (by omega)).trans f40_14
  have f41_15 : h41 (n + 1 + 1 + 1 + 1 + 1 + 1 + 1 + 1 + 1 + 1 + 1 + 1 + 1 + 1) = some (true, 0, List.replicate 8 (.int 0)) := (e41 _ (by omega)).trans f40_15
  have f41_16 : h41 (n + 1 + 1 + 1 + 1 + 1 + 1 + 1 + 1 + 1 + 1 + 1 + 1 + 1 + 1 + 1) = some (true, 0, List.replicate 48 (.int 0)) := (e41 _ (by omega)).trans f40_16
  have f41_17 : h41 (n + 1 + 1 + 1 + 1 + 1 + 1 + 1 + 1 + 1 + 1 + 1 + 1 + 1 + 1 + 1 + 1) = some (true, 0, List.replicate 48 (.int 0)) := (e41 _ (by omega)).trans f40_17
  have f41_18 : h41 (n + 1 + 1 + 1 + 1 + 1 + 1 + 1 + 1 + 1 + 1 + 1 + 1 + 1 + 1 + 1 + 1 + 1) = some (true, 0, List.replicate 8 (.int 0)) := (e41 _ (by omega)).trans f40_18
  have f41_19 : h41 (n + 1 + 1 + 1 + 1 + 1 + 1 + 1 + 1 + 1 + 1 + 1 + 1 + 1 + 1 + 1 + 1 + 1 + 1) = some (true, 2, List.replicate 8 (.double FP.dconst0)) := (e41 _ (by omega)).trans f40_19
  have f41_20 : h41 (n + 1 + 1 + 1 + 1 + 1 + 1 + 1 + 1 + 1 + 1 + 1 + 1 + 1 + 1 + 1 + 1 + 1 + 1 + 1) = some (true, 0, List.replicate 8 (.int 0)) := (e41 _ (by omega)).trans f40_20
  have f41_21 : h41 (n + 1 + 1 + 1 + 1 + 1 + 1 + 1 + 1 + 1 + 1 + 1 + 1 + 1 + 1 + 1 + 1 + 1 + 1 + 1 + 1) = some (true, 3, List.replicate 64 (.int 0)) := g41
  have w41 : ∀ q, q < n → q ≠ a → h41 q = h q := fun q hq na => (e41 q (by omega)).trans (w40 q hq na)
  refine sx_o (q := a) (o := (false, 9, [.int 0, .ref n, .ref (n + 1), .ref (n + 1 + 1), .ref (n + 1 + 1 + 1), .ref (n + 1 + 1 + 1 + 1), .ref (n + 1 + 1 + 1 + 1 + 1), .ref (n + 1 + 1 + 1 + 1 + 1 + 1), .ref (n + 1 + 1 + 1 + 1 + 1 + 1 + 1), .ref (n + 1 + 1 + 1 + 1 + 1 + 1 + 1 + 1), .ref (n + 1 + 1 + 1 + 1 + 1 + 1 + 1 + 1 + 1), .double FP.dconst0, .ref (n + 1 + 1 + 1 + 1 + 1 + 1 + 1 + 1 + 1 + 1), .ref (n + 1 + 1 + 1 + 1 + 1 + 1 + 1 + 1 + 1 + 1 + 1), .ref (n + 1 + 1 + 1 + 1 + 1 + 1 + 1 + 1 + 1 + 1 + 1 + 1), .ref (n + 1 + 1 + 1 + 1 + 1 + 1 + 1 + 1 + 1 + 1 + 1 + 1 + 1), .ref (n + 1 + 1 + 1 + 1 + 1 + 1 + 1 + 1 + 1 + 1 + 1 + 1 + 1 + 1), .ref (n + 1 + 1 + 1 + 1 + 1 + 1 + 1 + 1 + 1 + 1 + 1 + 1 + 1 + 1 + 1), .ref (n + 1 + 1 + 1 + 1 + 1 + 1 + 1 + 1 + 1 + 1 + 1 + 1 + 1 + 1 + 1 + 1), .ref (n + 1 + 1 + 1 + 1 + 1 + 1 + 1 + 1 + 1 + 1 + 1 + 1 + 1 + 1 + 1 + 1 + 1), .ref (n + 1 + 1 + 1 + 1 + 1 + 1 + 1 + 1 + 1 + 1 + 1 + 1 + 1 + 1 + 1 + 1 + 1 + 1), .ref (n + 1 + 1 + 1 + 1 + 1 + 1 + 1 + 1 + 1 + 1 + 1 + 1 + 1 + 1 + 1 + 1 + 1 + 1 + 1), .ref (n + 1 + 1 + 1 + 1 + 1 + 1 + 1 + 1 + 1 + 1 + 1 + 1 + 1 + 1 + 1 + 1 + 1 + 1 + 1 + 1), .null, .int 0, .int 0])) (fun Z k => sh_putF (k := 22) dc_Mod_init_169 f41_0 rfl (by decide) wd_884 rfl rfl rfl pd_AZ rfl rfl k) ?_
  intro h42 g42 e42
  have f42_1 : h42 n = some (true, 3, List.replicate 6 (.int 0)) := (e42 _ (by omega)).trans f41_1
  have f42_2 : h42 (n + 1) = some (true, 3, List.replicate 6 (.int 0)) := (e42 _ (by omega)).trans f41_2
  have f42_3 : h42 (n + 1 + 1) = some (true, 2, List.replicate 6 (.double FP.dconst0)) := (e42 _ (by omega)).trans f41_3
  have f42_4 : h42 (n + 1 + 1 + 1) = some (true, 0, List.replicate 6 (.int 0)) := (e42 _ (by omega)).trans f41_4
  have f42_5 : h42 (n + 1 + 1 + 1 + 1) = some (true, 0, List.replicate 6 (.int 0)) := (e42 _ (by omega)).trans f41_5
  have f42_6 : h42 (n + 1 + 1 + 1 + 1 + 1) = some (true, 0, List.replicate 6 (.int 0)) := (e42 _ (by omega)).trans f41_6
  have f42_7 : h42 (n + 1 + 1 + 1 + 1 + 1 + 1) = some (true, 2, List.replicate 6 (.double FP.dconst0)) := (e42 _ (by omega)).trans f41_7
  have f42_8 : h42 (n + 1 + 1 + 1 + 1 + 1 + 1 + 1) = some (true, 2, List.replicate 6 (.double FP.dconst0)) := (e42 _ (by omega)).trans f41_8
  have f42_9 : h42 (n + 1 + 1 + 1 + 1 + 1 + 1 + 1 + 1) = some (true, 0, List.replicate 6 (.int 0)) := (e42 _ (by omega)).trans f41_9
  have f42_10 : h42 (n + 1 + 1 + 1 + 1 + 1 + 1 + 1 + 1 + 1) = some (true, 0, List.replicate 6 (.int 0)) := (e42 _ (by omega)).trans f41_10
  have f42_11 : h42 (n + 1 + 1 + 1 + 1 + 1 + 1 + 1 + 1 + 1 + 1) = some (true, 0, List.replicate 8 (.int 0)) := (e42 _ (by omega)).trans f41_11
  have f42_12 : h42 (n + 1 + 1 + 1 + 1 + 1 + 1 + 1 + 1 + 1 + 1 + 1) = some (true, 0, List.replicate 8 (.int 0)) := (e42 _ (by omega)).trans f41_12
  have f42_13 : h42 (n + 1 + 1 + 1 + 1 + 1 + 1 + 1 + 1 + 1 + 1 + 1 + 1) = some (true, 0, List.replicate 8 (.int 0)) := (e42 _ (by omega)).trans f41_13
  have f42_14 : h42 (n + 1 + 1 + 1 + 1 + 1 + 1 + 1 + 1 + 1 + 1 + 1 + 1 + 1) = some (true, 0, List.replicate 8 (.int 0)) := (e42 _ (by omega)).trans f41_14
  have f42_15 : h42 (n + 1 + 1 + 1 + 1 + 1 + 1 + 1 + 1 + 1 + 1 + 1 + 1 + 1 + 1) = some (true, 0, List.replicate 8 (.int 0)) := (e42 _ (by omega)).trans f41_15
  have f42_16 : h42 (n + 1 + 1 + 1 + 1 + 1 + 1 + 1 + 1 + 1 + 1 + 1 + 1 + 1 + 1 + 1) = some (true, 0, List.replicate 48 (.int 0)) := (e42 _ (by omega)).trans f41_16
  have f42_17 : h42 (n + 1 + 1 + 1 + 1 + 1 + 1 + 1 + 1 + 1 + 1 + 1 + 1 + 1 + 1 + 1 + 1) = some (true, 0, List.replicate 48 (.int 0)) := (e42 _ (by omega)).trans f41_17
  have f42_18 : h42 (n + 1 + 1 + 1 + 1 + 1 + 1 + 1 + 1 + 1 + 1 + 1 + 1 + 1 + 1 + 1 + 1 + 1) = some (true, 0, List.replicate 8 (.int 0)) := (e42 _ (by omega)).trans f41_18
  have f42_19 : h42 (n + 1 + 1 + 1 + 1 + 1 + 1 + 1 + 1 + 1 + 1 + 1 + 1 + 1 + 1 + 1 + 1 + 1 + 1) = some (true, 2, List.replicate 8 (.double FP.dconst0)) := (e42 _ (by omega)).trans f41_19
  have f42_20 : h42 (n + 1 + 1 + 1 + 1 + 1 + 1 + 1 + 1 + 1 + 1 + 1 + 1 + 1 + 1 + 1 + 1 + 1 + 1 + 1) = some (true, 0, List.replicate 8 (.int 0)) := (e42 _ (by omega)).trans f41_20
  have f42_21 : h42 (n + 1 + 1 + 1 + 1 + 1 + 1 + 1 + 1 + 1 + 1 + 1 + 1 + 1 + 1 + 1 + 1 + 1 + 1 + 1 + 1) = some (true, 3, List.replicate 64 (.int 0)) := (e42 _ (by omega)).trans f41_21
  have f42_0 : h42 a = some (false, 9, [.int 0, .ref n, .ref (n + 1), .ref (n + 1 + 1), .ref (n + 1 + 1 + 1), .ref (n + 1 + 1 + 1 + 1), .ref (n + 1 + 1 + 1 + 1 + 1), .ref (n + 1 + 1 + 1 + 1 + 1 + 1), .ref (n + 1 + 1 + 1 + 1 + 1 + 1 + 1), .ref (n + 1 + 1 + 1 + 1 + 1 + 1 + 1 + 1), .ref (n + 1 + 1 + 1 + 1 + 1 + 1 + 1 + 1 + 1), .double FP.dconst0, .ref (n + 1 + 1 + 1 + 1 + 1 + 1 + 1 + 1 + 1 + 1), .ref (n + 1 + 1 + 1 + 1 + 1 + 1 + 1 + 1 + 1 + 1 + 1), .ref (n + 1 + 1 + 1 + 1 + 1 + 1 + 1 + 1 + 1 + 1 + 1 + 1), .ref (n + 1 + 1 + 1 + 1 + 1 + 1 + 1 + 1 + 1 + 1 + 1 + 1 + 1), .ref (n + 1 + 1 + 1 + 1 + 1 + 1 + 1 + 1 + 1 + 1 + 1 + 1 + 1 + 1), .ref (n + 1 + 1 + 1 + 1 + 1 + 1 + 1 + 1 + 1 + 1 + 1 + 1 + 1 + 1 + 1), .ref (n + 1 + 1 + 1 + 1 + 1 + 1 + 1 + 1 + 1 + 1 + 1 + 1 + 1 + 1 + 1 + 1), .ref (n + 1 + 1 + 1 + 1 + 1 + 1 + 1 + 1 + 1 + 1 + 1 + 1 + 1 + 1 + 1 + 1 + 1), .ref (n + 1 + 1 + 1 + 1 + 1 + 1 + 1 + 1 + 1 + 1 + 1 + 1 + 1 + 1 + 1 + 1 + 1 + 1), .ref (n + 1 + 1 + 1 + 1 + 1 + 1 + 1 + 1 + 1 + 1 + 1 + 1 + 1 + 1 + 1 + 1 + 1 + 1 + 1), .ref (n + 1 + 1 + 1 + 1 + 1 + 1 + 1 + 1 + 1 + 1 + 1 + 1 + 1 + 1 + 1 + 1 + 1 + 1 + 1 + 1), .null, .int 0, .int 0]) := g42
  have w42 : ∀ q, q < n → q ≠ a → h42 q = h q := fun q hq na => (e42 q (by omega)).trans (w41 q hq na)
  refine sx_p (fun Z k => sh_aload_n dc_Mod_init_172 rfl rfl k) ?_
  refine sx_p (fun Z k => sh_bipush (v := 8) dc_Mod_init_173 (by decide) k) ?_
  refine sx_n (o := (true, 3, List.replicate 8 (.int 0))) (fun Z k => sh_newa (N := 8) dc_Mod_init_175 rfl (ti := 3) rfl (fun U cA q => q) wd_941 (by decide) (by decide) (by decide) (by decide) (by decide) k) ?_
  intro h43 g43 e43
  have f43_0 : h43 a = some (false, 9, [.int 0, .ref n, .ref (n + 1), .ref (n + 1 + 1), .ref (n + 1 + 1 + 1), .ref (n + 1 + 1 + 1 + 1), .ref (n + 1 + 1 + 1 + 1 + 1), .ref (n + 1 + 1 + 1 + 1 + 1 + 1), .ref (n + 1 + 1 + 1 + 1 + 1 + 1 + 1), .ref (n + 1 + 1 + 1 + 1 + 1 + 1 + 1 + 1), .ref (n + 1 + 1 + 1 + 1 + 1 + 1 + 1 + 1 + 1), .double FP.dconst0, .ref (n + 1 + 1 + 1 + 1 + 1 + 1 + 1 + 1 + 1 + 1), .ref (n + 1 + 1 + 1 + 1 + 1 + 1 + 1 + 1 + 1 + 1 + 1), .ref (n + 1 + 1 + 1 + 1 + 1 + 1 + 1 + 1 + 1 + 1 + 1 + 1), .ref (n + 1 + 1 + 1 + 1 + 1 + 1 + 1 + 1 + 1 + 1 + 1 + 1 + 1), .ref (n + 1 + 1 + 1 + 1 + 1 + 1 + 1 + 1 + 1 + 1 + 1 + 1 + 1 + 1), .ref (n + 1 + 1 + 1 + 1 + 1 + 1 + 1 + 1 + 1 + 1 + 1 + 1 + 1 + 1 + 1), .ref (n + 1 + 1 + 1 + 1 + 1 + 1 + 1 + 1 + 1 + 1 + 1 + 1 + 1 + 1 + 1 + 1), .ref (n + 1 + 1 + 1 + 1 + 1 + 1 + 1 + 1 + 1 + 1 + 1 + 1 + 1 + 1 + 1 + 1 + 1), .ref (n + 1 + 1 + 1 + 1 + 1 + 1 + 1 + 1 + 1 + 1 + 1 + 1 + 1 + 1 + 1 + 1 + 1 + 1), .ref (n + 1 + 1 + 1 + 1 + 1 + 1 + 1 + 1 + 1 + 1 + 1 + 1 + 1 + 1 + 1 + 1 + 1 + 1 + 1), .ref (n + 1 + 1 + 1 + 1 + 1 + 1 + 1 + 1 + 1 + 1 + 1 + 1 + 1 + 1 + 1 + 1 + 1 + 1 + 1 + 1), .null, .int 0, .int 0]) := (e43 _ (by omega)).trans f42_0
  have f43_1 : h43 n = some (true, 3, List.replicate 6 (.int 0)) := (e43 _ (by omega)).trans f42_1
  have f43_2 : h43 (n + 1) = some (true, 3, List.replicate 6 (.int 0)) := (e43 _ (by omega)).trans f42_2
  have f43_3 : h43 (n + 1 + 1) = some (true, 2, List.replicate 6 (.double FP.dconst0)) := (e43 _ (by omega)).trans f42_3
  have f43_4 : h43 (n + 1 + 1 + 1) = some (true, 0, List.replicate 6 (.int 0)) := (e43 _ (by omega)).trans f42_4
  have f43_5 : h43 (n + 1 + 1 + 1 + 1) = some (true, 0, List.replicate 6 (.int 0)) := (e43 _ (by omega)).trans f42_5
  have f43_6 : h43 (n + 1 + 1 + 1 + 1 + 1) = some (true, 0, List.replicate 6 (.int 0)) := (e43 _ (by omega)).trans f42_6
  have f43_7 : h43 (n + 1 + 1 + 1 + 1 + 1 + 1) = some (true, 2, List.replicate 6 (.double FP.dconst0)) := (e43 _ (by omega)).trans f42_7
  have f43_8 : h43 (n + 1 + 1 + 1 + 1 + 1 + 1 + 1) = some (true, 2, List.replicate 6 (.double FP.dconst0)) := (e43 _ (by omega)).trans f42_8
  have f43_9 : h43 (n + 1 + 1 + 1 + 1 + 1 + 1 + 1 + 1) = some (true, 0, List.replicate 6 (.int 0)) := (e43 _ (by omega)).trans f42_9
  have f43_10 : h43 (n + 1 + 1 + 1 + 1 + 1 + 1 + 1 + 1 + 1) = some (true, 0, List.replicate 6 (.int 0)) := (e43 _ (by omega)).trans f42_10
  have f43_11 : h43 (n + 1 + 1 + 1 + 1 + 1 + 1 + 1 + 1 + 1 + 1) = some (true, 0, List.replicate 8 (.int 0)) := (e43 _ (by omega)).trans f42_11
  have f43_12 : h43 (n + 1 + 1 + 1 + 1 + 1 + 1 + 1 + 1 + 1 + 1 + 1) = some (true, 0, List.replicate 8 (.int 0)) := (e43 _ (by omega)).trans f42_12
  have f43_13 : h43 (n + 1 + 1 + 1 + 1 + 1 + 1 + 1 + 1 + 1 + 1 + 1 + 1) = some (true, 0, List.replicate 8 (.int 0)) := (e43 _ (by omega)).trans f42_13
  have f43_14 : h43 (n + 1 + 1 + 1 + 1 + 1 + 1 + 1 + 1 + 1 + 1 + 1 + 1 + 1) = some (true, 0, List.replicate 8 (.int 0)) := (e43 _ (by omega)).trans f42_14
  have f43_15 : h43 (n + 1 + 1 + 1 + 1 + 1 + 1 + 1 + 1 + 1 + 1 + 1 + 1 + 1 + 1) = some (true, 0, List.replicate 8 (.int 0)) := (e43 _ (by omega)).trans f42_15
  have f43_16 : h43 (n + 1 + 1 + 1 + 1 + 1 + 1 + 1 + 1 + 1 + 1 + 1 + 1 + 1 + 1 + 1) = some (true, 0, List.replicate 48 (.int 0)) := (e43 _ (by omega)).trans f42_16
  have f43_17 : h43 (n + 1 + 1 + 1 + 1 + 1 + 1 + 1 + 1 + 1 + 1 + 1 + 1 + 1 + 1 + 1 + 1) = some (true, 0, List.replicate 48 (.int 0)) := (e43 _ (by omega)).trans f42_17
  have f43_18 : h43 (n + 1 + 1 + 1 + 1 + 1 + 1 + 1 + 1 + 1 + 1 + 1 + 1 + 1 + 1 + 1 + 1 + 1) = some (true, 0, List.replicate 8 (.int 0)) := (e43 _ (by omega)).trans f42_18
  have f43_19 : h43 (n + 1 + 1 + 1 + 1 + 1 + 1 + 1 + 1 + 1 + 1 + 1 + 1 + 1 + 1 + 1 + 1 + 1 + 1) = some (true, 2, List.replicate 8 (.double FP.dconst0)) := (e43 _ (by omega)).trans f42_19
  have f43_20 : h43 (n + 1 + 1 + 1 + 1 + 1 + 1 + 1 + 1 + 1 + 1 + 1 + 1 + 1 + 1 + 1 + 1 + 1 + 1 + 1) = some (true, 0, List.replicate 8 (.int 0)) := (e43 _ (by omega)).trans f42_20
  have f43_21 : h43 (n + 1 + 1 + 1 + 1 + 1 + 1 + 1 + 1 + 1 + 1 + 1 + 1 + 1 + 1 + 1 + 1 + 1 + 1 + 1 + 1) = some (true, 3, List.replicate 64 (.int 0)) := (e43 _ (by omega)).trans f42_21
  have f43_22 : h43 (n + 1 + 1 + 1 + 1 + 1 + 1 + 1 + 1 + 1 + 1 + 1 + 1 + 1 + 1 + 1 + 1 + 1 + 1 + 1 + 1 + 1) = some (true, 3, List.replicate 8 (.int 0)) := g43
  have w43 : ∀ q, q < n → q ≠ a → h43 q = h q := fun q hq na => (e43 q (by omega)).trans (w42 q hq na)
  refine sx_o (q := a) (o := (false, 9, [.int 0, .ref n, .ref (n + 1), .ref (n + 1 + 1), .ref (n + 1 + 1 + 1), .ref (n + 1 + 1 + 1 + 1), .ref (n + 1 + 1 + 1 + 1 + 1), .ref (n + 1 + 1 + 1 + 1 + 1 + 1), .ref (n + 1 + 1 + 1 + 1 + 1 + 1 + 1), .ref (n + 1 + 1 + 1 + 1 + 1 + 1 + 1 + 1), .ref (n + 1 + 1 + 1 + 1 + 1 + 1 + 1 + 1 + 1), .double FP.dconst0, .ref (n + 1 + 1 + 1 + 1 + 1 + 1 + 1 + 1 + 1 + 1), .ref (n + 1 + 1 + 1 + 1 + 1 + 1 + 1 + 1 + 1 + 1 + 1), .ref (n + 1 + 1 + 1 + 1 + 1 + 1 + 1 + 1 + 1 + 1 + 1 + 1), .ref (n + 1 + 1 + 1 + 1 + 1 + 1 + 1 + 1 + 1 + 1 + 1 + 1 + 1), .ref (n + 1 + 1 + 1 + 1 + 1 + 1 + 1 + 1 + 1 + 1 + 1 + 1 + 1 + 1), .ref (n + 1 + 1 + 1 + 1 + 1 + 1 + 1 + 1 + 1 + 1 + 1 + 1 + 1 + 1 + 1), .ref (n + 1 + 1 + 1 + 1 + 1 + 1 + 1 + 1 + 1 + 1 + 1 + 1 + 1 + 1 + 1 + 1), .ref (n + 1 + 1 + 1 + 1 + 1 + 1 + 1 + 1 + 1 + 1 + 1 + 1 + 1 + 1 + 1 + 1 + 1), .ref (n + 1 + 1 + 1 + 1 + 1 + 1 + 1 + 1 + 1 + 1 + 1 + 1 + 1 + 1 + 1 + 1 + 1 + 1), .ref (n + 1 + 1 + 1 + 1 + 1 + 1 + 1 + 1 + 1 + 1 + 1 + 1 + 1 + 1 + 1 + 1 + 1 + 1 + 1), .ref (n + 1 + 1 + 1 + 1 + 1 + 1 + 1 + 1 + 1 + 1 + 1 + 1 + 1 + 1 + 1 + 1 + 1 + 1 + 1 + 1), .ref (n + 1 + 1 + 1 + 1 + 1 + 1 + 1 + 1 + 1 + 1 + 1 + 1 + 1 + 1 + 1 + 1 + 1 + 1 + 1 + 1 + 1), .int 0, .int 0])) (fun Z k => sh_putF (k := 23) dc_Mod_init_177 f43_0 rfl (by decide) wd_885 rfl rfl rfl pd_AZ rfl rfl k) ?_
  intro h44 g44 e44
  have f44_1 : h44 n = some (true, 3, List.replicate 6 (.int 0)) := (e44 _ (by omega)).trans f43_1
  have f44_2 : h44 (n + 1) = some (true, 3, List.replicate 6 (.int 0)) := (e44 _ (by omega)).trans f43_2
  have f44_3 : h44 (n + 1 + 1) = some (true, 2, List.replicate 6 (.double FP.dconst0)) := (e44 _ (by omega)).trans f43_3
  have f44_4 : h44 (n + 1 + 1 + 1) = some (true, 0, List.replicate 6 (.int 0)) := (e44 _ (by omega)).trans f43_4
  have f44_5 : h44 (n + 1 + 1 + 1 + 1) = some (true, 0, List.replicate 6 (.int 0)) := (e44 _ (by omega)).trans f43_5
  have f44_6 : h44 (n + 1 + 1 + 1 + 1 + 1) = some (true, 0, List.replicate 6 (.int 0)) := (e44 _ (by omega)).trans f43_6
  have f44_7 : h44 (n + 1 + 1 + 1 + 1 + 1 + 1) = some (true, 2, List.replicate 6 (.double FP.dconst0)) := (e44 _ (by omega)).trans f43_7
  have f44_8 : h44 (n + 1 + 1 + 1 + 1 + 1 + 1 + 1) = some (true, 2, List.replicate 6 (.double FP.dconst0)) := (e44 _ (by omega)).trans f43_8
  have f44_9 : h44 (n + 1 + 1 + 1 + 1 + 1 + 1 + 1 + 1) = some (true, 0, List.replicate 6 (.int 0)) := (e44 _ (by omega)).trans f43_9
  have f44_10 : h44 (n + 1 + 1 + 1 + 1 + 1 + 1 + 1 + 1 + 1) = some (true, 0, List.replicate 6 (.int 0)) := (e44 _ (by omega)).trans f43_10
  have f44_11 : h44 (n + 1 + 1 + 1 + 1 + 1 + 1 + 1 + 1 + 1 + 1) = some (true, 0, List.replicate 8 (.int 0)) := (e44 _ (by omega)).trans f43_11
  have f44_12 : h44 (n + 1 + 1 + 1 + 1 + 1 + 1 + 1 + 1 + 1 + 1 + 1) = some (true, 0, List.replicate 8 (.int 0)) := (e44 _ (by omega)).trans f43_12
  have f44_13 : h44 (n + 1 + 1 + 1 + 1 + 1 + 1 + 1 + 1 + 1 + 1 + 1 + 1) = some (true, 0, List.replicate 8 (.int 0)) := (e44 _ (by omega)).trans f43_13
  have f44_14 : h44 (n + 1 + 1 + 1 + 1 + 1 + 1 + 1 + 1 + 1 + 1 + 1 + 1 + 1) = some (true, 0, List.replicate 8 (.int 0)) := (e44 _ (by omega)).trans f43_14
  have f44_15 : h44 (n + 1 + 1 + 1 + 1 + 1 + 1 + 1 + 1 + 1 + 1 + 1 + 1 + 1 + 1) = some (true, 0, List.replicate 8 (.int 0)) := (e44 _ (by omega)).trans f43_15
  have f44_16 : h44 (n + 1 + 1 + 1 + 1 + 1 + 1 + 1 + 1 + 1 + 1 + 1 + 1 + 1 + 1 + 1) = some (true, 0, List.replicate 48 (.int 0)) := (e44 _ (by omega)).trans f43_16
  have f44_17 : h44 (n + 1 + 1 + 1 + 1 + 1 + 1 + 1 + 1 + 1 + 1 + 1 + 1 + 1 + 1 + 1 + 1) = some (true, 0, List.replicate 48 (.int 0)) := (e44 _ (by omega)).trans f43_17
  have f44_18 : h44 (n + 1 + 1 + 1 + 1 + 1 + 1 + 1 + 1 + 1 + 1 + 1 + 1 + 1 + 1 + 1 + 1 + 1) = some (true, 0, List.replicate 8 (.int 0)) := (e44 _ (by omega)).trans f43_18
  have f44_19 : h44 (n + 1 + 1 + 1 + 1 + 1 + 1 + 1 + 1 + 1 + 1 + 1 + 1 + 1 + 1 + 1 + 1 + 1 + 1) = some (true, 2, List.replicate 8 (.double FP.dconst0)) := (e44 _ (by omega)).trans f43_19
  have f44_20 : h44 (n + 1 + 1 + 1 + 1 + 1 + 1 + 1 + 1 + 1 + 1 + 1 + 1 + 1 + 1 + 1 + 1 + 1 + 1 + 1) = some (true, 0, List.replicate 8 (.int 0)) := (e44 _ (by omega)).trans f43_20
  have f44_21 : h44 (n + 1 + 1 + 1 + 1 + 1 + 1 + 1 + 1 + 1 + 1 + 1 + 1 + 1 + 1 + 1 + 1 + 1 + 1 + 1 + 1) = some (true, 3, List.replicate 64 (.int 0)) := (e44 _ (by omega)).trans f43_21
  have f44_22 : h44 (n + 1 + 1 + 1 + 1 + 1 + 1 + 1 + 1 + 1 + 1 + 1 + 1 + 1 + 1 + 1 + 1 + 1 + 1 + 1 + 1 + 1) = some (true, 3, List.replicate 8 (.int 0)) := (e44 _ (by omega)).trans f43_22
  have f44_0 : h44 a = some (false, 9, [.int 0, .ref n, .ref (n + 1), .ref (n + 1 + 1), .ref (n + 1 + 1 + 1), .ref (n + 1 + 1 + 1 + 1), .ref (n + 1 + 1 + 1 + 1 + 1), .ref (n + 1 + 1 + 1 + 1 + 1 + 1), .ref (n + 1 + 1 + 1 + 1 + 1 + 1 + 1), .ref (n + 1 + 1 + 1 + 1 + 1 + 1 + 1 + 1), .ref (n + 1 + 1 + 1 + 1 + 1 + 1 + 1 + 1 + 1), .double FP.dconst0, .ref (n + 1 + 1 + 1 + 1 + 1 + 1 + 1 + 1 + 1 + 1), .ref (n + 1 + 1 + 1 + 1 + 1 + 1 + 1 + 1 + 1 + 1 + 1), .ref (n + 1 + 1 + 1 + 1 + 1 + 1 + 1 + 1 + 1 + 1 + 1 + 1), .ref (n + 1 + 1 + 1 + 1 + 1 + 1 + 1 + 1 + 1 + 1 + 1 + 1 + 1), .ref (n + 1 + 1 + 1 + 1 + 1 + 1 + 1 + 1 + 1 + 1 + 1 + 1 + 1 + 1), .ref (n + 1 + 1 + 1 + 1 + 1 + 1 + 1 + 1 + 1 + 1 + 1 + 1 + 1 + 1 + 1), .ref (n + 1 + 1 + 1 + 1 + 1 + 1 + 1 + 1 + 1 + 1 + 1 + 1 + 1 + 1 + 1 + 1), .ref (n + 1 + 1 + 1 + 1 + 1 + 1 + 1 + 1 + 1 + 1 + 1 + 1 + 1 + 1 + 1 + 1 + 1), .ref (n + 1 + 1 + 1 + 1 + 1 + 1 + 1 + 1 + 1 + 1 + 1 + 1 + 1 + 1 + 1 + 1 + 1 + 1), .ref (n + 1 + 1 + 1 + 1 + 1 + 1 + 1 + 1 + 1 + 1 + 1 + 1 + 1 + 1 + 1 + 1 + 1 + 1 + 1), .ref (n + 1 + 1 + 1 + 1 + 1 + 1 + 1 + 1 + 1 + 1 + 1 + 1 + 1 + 1 + 1 + 1 + 1 + 1 + 1 + 1), .ref (n + 1 + 1 + 1 + 1 + 1 + 1 + 1 + 1 + 1 + 1 + 1 + 1 + 1 + 1 + 1 + 1 + 1 + 1 + 1 + 1 + 1), .int 0, .int 0]) := g44
  have w44 : ∀ q, q < n → q ≠ a → h44 q = h q := fun q hq na => (e44 q (by omega)).trans (w43 q hq na)
  exact k9 h44 f44_0 f44_1 f44_2 f44_3 f44_4 f44_5 f44_6 f44_7 f44_8 f44_9 f44_10 f44_11 f44_12 f44_13 f44_14 f44_15 f44_16 f44_17 f44_18 f44_19 f44_20 f44_21 f44_22 w44
theorem sx_Mod_init_t0 {n : Nat} {h : sh_Hp} {a : Nat} {u1 : Nat} {u2 : Nat} {u3 : Nat} {u4 : Nat} {u5 : Nat} {u6 : Nat} {u7 : Nat} {u8 : Nat} {u9 : Nat} {u10 : Nat} {u12 : Nat} {u13 : Nat} {u14 : Nat} {u15 : Nat} {u16 : Nat} {u17 : Nat} {u18 : Nat} {u19 : Nat} {u20 : Nat} {u21 : Nat} {u22 : Nat} {u23 : Nat} {cs ss : Nat} {v : Option Value} {P : Nat → sh_Hp → Prop} (h_a : a < n) (f_a : h a = some (false, 9, [.int 0, .ref u1, .ref u2, .ref u3, .ref u4, .ref u5, .ref u6, .ref u7, .ref u8, .ref u9, .ref u10, .double FP.dconst0, .ref u12, .ref u13, .ref u14, .ref u15, .ref u16, .ref u17, .ref u18, .ref u19, .ref u20, .ref u21, .ref u22, .ref u23, .int 0, .int 0])) (h_u4 : u4 < n) (f_u4 : h u4 = some (true, 0, List.replicate 6 (.int 0))) (h_u5 : u5 < n) (f_u5 : h u5 = some (true, 0, List.replicate 6 (.int 0))) (n1 : a ≠ u4) (n2 : a ≠ u5) (n3 : u4 ≠ u5) (k9 : ∀ h1 : sh_Hp, h1 a = some (false, 9, [.int 0, .ref u1, .ref u2, .ref u3, .ref u4, .ref u5, .ref u6, .ref u7, .ref u8, .ref u9, .ref u10, .double FP.dconst0, .ref u12, .ref u13, .ref u14, .ref u15, .ref u16, .ref u17, .ref u18, .ref u19, .ref u20, .ref u21, .ref u22, .ref u23, .int 0, .int 0]) → h1 u4 = some (true, 0, [.int (-1), .int 0, .int 0, .int 0, .int 0, .int 0]) → h1 u5 = some (true, 0, [.int (-1), .int 0, .int 0, .int 0, .int 0, .int 0]) → (∀ q, q < n → q ≠ a → q ≠ u4 → q ≠ u5 → h1 q = h q) → sx_W md_Mod_init (182, [(1, .int 1), (0, .ref a)], []) (n) h1 cs ss v P) : sx_W md_Mod_init (182, [(1, .int 0), (0, .ref a)], []) n h cs ss v P := by
  have w0 : ∀ q, q < n → q ≠ a → q ≠ u4 → q ≠ u5 → h q = h q := fun _ _ _ _ _ => rfl
  refine sx_p (fun Z k => sh_iload_n dc_Mod_init_182 rfl rfl k) ?_
  refine sx_p (fun Z k => sh_bipush (v := 6) dc_Mod_init_183 (by decide) k) ?_
  refine sx_p (fun Z k => sh_icmp_ge (tgt := 208) dc_Mod_init_185 (by decide) (fun z => absurd z (by decide)) (fun _ => k)) ?_
  refine sx_p (fun Z k => sh_aload_n dc_Mod_init_188 rfl rfl k) ?_
  refine sx_p (fun Z k => sh_get (k := 4) dc_Mod_init_189 f_a rfl (by decide) fl_Mod_20 rfl k) ?_
  refine sx_p (fun Z k => sh_iload_n dc_Mod_init_192 rfl rfl k) ?_
  refine sx_p (fun Z k => sh_iconst (v := (-1)) dc_Mod_init_193 (by decide) k) ?_
  refine sx_o (q := u4) (o := (true, 0, [.int (-1), .int 0, .int 0, .int 0, .int 0, .int 0])) (fun Z k => sh_iast (i := 0) dc_Mod_init_194 f_u4 rfl (by decide) rfl k) ?_
  intro h1 g1 e1
  have f1_0 : h1 a = some (false, 9, [.int 0, .ref u1, .ref u2, .ref u3, .ref u4, .ref u5, .ref u6, .ref u7, .ref u8, .ref u9, .ref u10, .double FP.dconst0, .ref u12, .ref u13, .ref u14, .ref u15, .ref u16, .ref u17, .ref u18, .ref u19, .ref u20, .ref u21, .ref u22, .ref u23, .int 0, .int 0]) := (e1 _ (by omega)).trans f_a
  have f1_2 : h1 u5 = some (true, 0, List.replicate 6 (.int 0)) := (e1 _ (by omega)).trans f_u5
  have f1_1 : h1 u4 = some (true, 0, [.int (-1), .int 0, .int 0, .int 0, .int 0, .int 0]) := g1
  have w1 : ∀ q, q < n → q ≠ a → q ≠ u4 → q ≠ u5 → h1 q = h q := fun q hq na nu4 nu5 => (e1 q (by omega)).trans (w0 q hq na nu4 nu5)
  refine sx_p (fun Z k => sh_aload_n dc_Mod_init_195 rfl rfl k) ?_
  refine sx_p (fun Z k => sh_get (k := 5) dc_Mod_init_196 f1_0 rfl (by decide) fl_Mod_24 rfl k) ?_
  refine sx_p (fun Z k => sh_iload_n dc_Mod_init_199 rfl rfl k) ?_
  refine sx_p (fun Z k => sh_iconst (v := (-1)) dc_Mod_init_200 (by decide) k) ?_
  refine sx_o (q := u5) (o := (true, 0, [.int (-1), .int 0, .int 0, .int 0, .int 0, .int 0])) (fun Z k => sh_iast (i := 0) dc_Mod_init_201 f1_2 rfl (by decide) rfl k) ?_
  intro h2 g2 e2
  have f2_0 : h2 a = some (false, 9, [.int 0, .ref u1, .ref u2, .ref u3, .ref u4, .ref u5, .ref u6, .ref u7, .ref u8, .ref u9, .ref u10, .double FP.dconst0, .ref u12, .ref u13, .ref u14, .ref u15, .ref u16, .ref u17, .ref u18, .ref u19, .ref u20, .ref u21, .ref u22, .ref u23, .int 0, .int 0]) := (e2 _ (by omega)).trans f1_0
  have f2_1 : h2 u4 = some (true, 0, [.int (-1), .int 0, .int 0, .int 0, .int 0, .int 0]) := (e2 _ (by omega)).trans f1_1
  have f2_2 : h2 u5 = some (true, 0, [.int (-1), .int 0, .int 0, .int 0, .int 0, .int 0]) := g2
  have w2 : ∀ q, q < n → q ≠ a → q ≠ u4 → q ≠ u5 → h2 q = h q := fun q hq na nu4 nu5 => (e2 q (by omega)).trans (w1 q hq na nu4 nu5)
  refine sx_p (fun Z k => sh_iinc (v := 1) dc_Mod_init_202 rfl (by decide) (by decide) k) ?_
  refine sx_p (fun Z k => sh_goto_ (tgt := 182) dc_Mod_init_205 (by decide) k) ?_
  exact k9 h2 f2_0 f2_1 f2_2 w2
theorem sx_Mod_init_t1 {n : Nat} {h : sh_Hp} {a : Nat} {u1 : Nat} {u2 : Nat} {u3 : Nat} {u4 : Nat} {u5 : Nat} {u6 : Nat} {u7 : Nat} {u8 : Nat} {u9 : Nat} {u10 : Nat} {u12 : Nat} {u13 : Nat} {u14 : Nat} {u15 : Nat} {u16 : Nat} {u17 : Nat} {u18 : Nat} {u19 : Nat} {u20 : Nat} {u21 : Nat} {u22 : Nat} {u23 : Nat} {cs ss : Nat} {v : Option Value} {P : Nat → sh_Hp → Prop} (h_a : a < n) (f_a : h a = some (false, 9, [.int 0, .ref u1, .ref u2, .ref u3, .ref u4, .ref u5, .ref u6, .ref u7, .ref u8, .ref u9, .ref u10, .double FP.dconst0, .ref u12, .ref u13, .ref u14, .ref u15, .ref u16, .ref u17, .ref u18, .ref u19, .ref u20, .ref u21, .ref u22, .ref u23, .int 0, .int 0])) (h_u4 : u4 < n) (f_u4 : h u4 = some (true, 0, [.int (-1), .int 0, .int 0, .int 0, .int 0, .int 0])) (h_u5 : u5 < n) (f_u5 : h u5 = some (true, 0, [.int (-1), .int 0, .int 0, .int 0, .int 0, .int 0])) (n1 : a ≠ u4) (n2 : a ≠ u5) (n3 : u4 ≠ u5) (k9 : ∀ h1 : sh_Hp, h1 a = some (false, 9, [.int 0, .ref u1, .ref u2, .ref u3, .ref u4, .ref u5, .ref u6, .ref u7, .ref u8, .ref u9, .ref u10, .double FP.dconst0, .ref u12, .ref u13, .ref u14, .ref u15, .ref u16, .ref u17, .ref u18, .ref u19, .ref u20, .ref u21, .ref u22, .ref u23, .int 0, .int 0]) → h1 u4 = some (true, 0, [.int (-1), .int (-1), .int 0, .int 0, .int 0, .int 0]) → h1 u5 = some (true, 0, [.int (-1), .int (-1), .int 0, .int 0, .int 0, .int 0]) → (∀ q, q < n → q ≠ a → q ≠ u4 → q ≠ u5 → h1 q = h q) → sx_W md_Mod_init (182, [(1, .int 2), (0, .ref a)], []) (n) h1 cs ss v P) : sx_W md_Mod_init (182, [(1, .int 1), (0, .ref a)], []) n h cs ss v P := by
  have w0 : ∀ q, q < n → q ≠ a → q ≠ u4 → q ≠ u5 → h q = h q := fun _ _ _ _ _ => rfl
  refine sx_p (fun Z k => sh_iload_n dc_Mod_init_182 rfl rfl k) ?_
  refine sx_p (fun Z k => sh_bipush (v := 6) dc_Mod_init_183 (by decide) k) ?_
  refine sx_p (fun Z k => sh_icmp_ge (tgt := 208) dc_Mod_init_185 (by decide) (fun z => absurd z (by decide)) (fun _ => k)) ?_
  refine sx_p (fun Z k => sh_aload_n dc_Mod_init_188 rfl rfl k) ?_
  refine sx_p (fun Z k => sh_get (k := 4) dc_Mod_init_189 f_a rfl (by decide) fl_Mod_20 rfl k) ?_
  refine sx_p (fun Z k => sh_iload_n dc_Mod_init_192 rfl rfl k) ?_
  refine sx_p (fun Z k => sh_iconst (v := (-1)) dc_Mod_init_193 (by decide) k) ?_
  refine sx_o (q := u4) (o := (true, 0, [.int (-1), .int (-1), .int 0, .int 0, .int 0, .int 0])) (fun Z k => sh_iast (i := 1) dc_Mod_init_194 f_u4 rfl (by decide) rfl k) ?_
  intro h1 g1 e1
  have f1_0 : h1 a = some (false, 9, [.int 0, .ref u1, .ref u2, .ref u3, .ref u4, .ref u5, .ref u6, .ref u7, .ref u8, .ref u9, .ref u10, .double FP.dconst0, .ref u12, .ref u13, .ref u14, .ref u15, .ref u16, .ref u17, .ref u18, .ref u19, .ref u20, .ref u21, .ref u22, .ref u23, .int 0, .int 0]) := (e1 _ (by omega)).trans f_a
  have f1_2 : h1 u5 = some (true, 0, [.int (-1), .int 0, .int 0, .int 0, .int 0, .int 0]) := (e1 _ (by omega)).trans f_u5
  have f1_1 : h1 u4 = some (true, 0, [.int (-1), .int (-1), .int 0, .int 0, .int 0, .int 0]) := g1
  have w1 : ∀ q, q < n → q ≠ a → q ≠ u4 → q ≠ u5 → h1 q = h q := fun q hq na nu4 nu5 => (e1 q (by omega)).trans (w0 q hq na nu4 nu5)
  refine sx_p (fun Z k => sh_aload_n dc_Mod_init_195 rfl rfl k) ?_
  refine sx_p (fun Z k => sh_get (k := 5) dc_Mod_init_196 f1_0 rfl (by decide) fl_Mod_24 rfl k) ?_
  refine sx_p (fun Z k => sh_iload_n dc_Mod_init_199 rfl rfl k) ?_
  refine sx_p (fun Z k => sh_iconst (v := (-1)) dc_Mod_init_200 (by decide) k) ?_
  refine sx_o (q := u5) (o := (true, 0, [.int (-1), .int (-1), .int 0, .int 0, .int 0, .int 0])) (fun Z k => sh_iast (i := 1) dc_Mod_init_201 f1_2 rfl (by decide) rfl k) ?_
  intro h2 g2 e2
  have f2_0 : h2 a = some (false, 9, [.int 0, .ref u1, .ref u2, .ref u3, .ref u4, .ref u5, .ref u6, .ref u7, .ref u8, .ref u9, .ref u10, .double FP.dconst0, .ref u12, .ref u13, .ref u14, .ref u15, .ref u16, .ref u17, .ref u18, .ref u19, .ref u20, .ref u21, .ref u22, .ref u23, .int 0, .int 0]) := (e2 _ (by omega)).trans f1_0
  have f2_1 : h2 u4 = some (true, 0, [.int (-1), .int (-1), .int 0, .int 0, .int 0, .int 0]) := (e2 _ (by omega)).trans f1_1
  have f2_2 : h2 u5 = some (true, 0, [.int (-1), .int (-1), .int 0, .int 0, .int 0, .int 0]) := g2
  have w2 : ∀ q, q < n → q ≠ a → q ≠ u4 → q ≠ u5 → h2 q = h q := fun q hq na nu4 nu5 => (e2 q (by omega)).trans (w1 q hq na nu4 nu5)
  refine sx_p (fun Z k => sh_iinc (v := 2) dc_Mod_init_202 rfl (by decide) (by decide) k) ?_
  refine sx_p (fun Z k => sh_goto_ (tgt := 182) dc_Mod_init_205 (by decide) k) ?_
  exact k9 h2 f2_0 f2_1 f2_2 w2
theorem sx_Mod_init_t2 {n : Nat} {h : sh_Hp} {a : Nat} {u1 : Nat} {u2 : Nat} {u3 : Nat} {u4 : Nat} {u5 : Nat} {u6 : Nat} {u7 : Nat} {u8 : Nat} {u9 : Nat} {u10 : Nat} {u12 : Nat} {u13 : Nat} {u14 : Nat} {u15 : Nat} {u16 : Nat} {u17 : Nat} {u18 : Nat} {u19 : Nat} {u20 : Nat} {u21 : Nat} {u22 : Nat} {u23 : Nat} {cs ss : Nat} {v : Option Value} {P : Nat → sh_Hp → Prop} (h_a : a < n) (f_a : h a = some (false, 9, [.int 0, .ref u1, .ref u2, .ref u3, .ref u4, .ref u5, .ref u6, .ref u7, .ref u8, .ref u9, .ref u10, .double FP.dconst0, .ref u12, .ref u13, .ref u14, .ref u15, .ref u16, .ref u17, .ref u18, .ref u19, .ref u20, .ref u21, .ref u22, .ref u23, .int 0, .int 0])) (h_u4 : u4 < n) (f_u4 : h u4 = some (true, 0, [.int (-1), .int (-1), .int 0, .int 0, .int 0, .int 0])) (h_u5 : u5 < n) (f_u5 : h u5 = some (true, 0, [.int (-1), .int (-1), .int 0, .int 0, .int 0, .int 0])) (n1 : a ≠ u4) (n2 : a ≠ u5) (n3 : u4 ≠ u5) (k9 : ∀ h1 : sh_Hp, h1 a = some (false, 9, [.int 0, .ref u1, .ref u2, .ref u3, .ref u4, .ref u5, .ref u6, .ref u7, .ref u8, .ref u9, .ref u10, .double FP.dconst0, .ref u12, .ref u13, .ref u14, .ref u15, .ref u16, .ref u17, .ref u18, .ref u19, .ref u20, .ref u21, .ref u22, .ref u23, .int 0, .int 0]) → h1 u4 = some (true, 0, [.int (-1), .int (-1), .int (-1), .int 0, .int 0, .int 0]) → h1 u5 = some (true, 0, [.int (-1), .int (-1), .int (-1), .int 0, .int 0, .int 0]) → (∀ q, q < n → q ≠ a → q ≠ u4 → q ≠ u5 → h1 q = h q) → sx_W md_Mod_init (182, [(1, .int 3), (0, .ref a)], []) (n) h1 cs ss v P) : sx_W md_Mod_init (182, [(1, .int 2), (0, .ref a)], []) n h cs ss v P := by
  have w0 : ∀ q, q < n → q ≠ a → q ≠ u4 → q ≠ u5 → h q = h q := fun _ _ _ _ _ => rfl
  refine sx_p (fun Z k => sh_iload_n dc_Mod_init_182 rfl rfl k) ?_
  refine sx_p (fun Z k => sh_bipush (v := 6) dc_Mod_init_183 (by decide) k) ?_
  refine sx_p (fun Z k => sh_icmp_ge (tgt := 208) dc_Mod_init_185 (by decide) (fun z => absurd z (by decide)) (fun _ => k)) ?_
  refine sx_p (fun Z k => sh_aload_n dc_Mod_init_188 rfl rfl k) ?_
  refine sx_p (fun Z k => sh_get (k := 4) dc_Mod_init_189 f_a rfl (by decide) fl_Mod_20 rfl k) ?_
  refine sx_p (fun Z k => sh_iload_n dc_Mod_init_192 rfl rfl k) ?_
  refine sx_p (fun Z k => sh_iconst (v := (-1)) dc_Mod_init_193 (by decide) k) ?_
  refine sx_o (q := u4) (o := (true, 0, [.int (-1), .int (-1), .int (-1), .int 0, .int 0, .int 0])) (fun Z k => sh_iast (i := 2) dc_Mod_init_194 f_u4 rfl (by decide) rfl k) ?_
  intro h1 g1 e1
  have f1_0 : h1 a = some (false, 9, [.int 0, .ref u1, .ref u2, .ref u3, .ref u4, .ref u5, .ref u6, .ref u7, .ref u8, .ref u9, .ref u10, .double FP.dconst0, .ref u12, .ref u13, .ref u14, .ref u15, .ref u16, .ref u17, .ref u18, .ref u19, .ref u20, .ref u21, .ref u22, .ref u23, .int 0, .int 0]) := (e1 _ (by omega)).trans f_a
  have f1_2 : h1 u5 = some (true, 0, [.int (-1), .int (-1), .int 0, .int 0, .int 0, .int 0]) := (e1 _ (by omega)).trans f_u5
  have f1_1 : h1 u4 = some (true, 0, [.int (-1), .int (-1), .int (-1), .int 0, .int 0, .int 0]) := g1
  have w1 : ∀ q, q < n → q ≠ a → q ≠ u4 → q ≠ u5 → h1 q = h q := fun q hq na nu4 nu5 => (e1 q (by omega)).trans (w0 q hq na nu4 nu5)
  refine sx_p (fun Z k => sh_aload_n dc_Mod_init_195 rfl rfl k) ?_
  refine sx_p (fun Z k => sh_get (k := 5) dc_Mod_init_196 f1_0 rfl (by decide) fl_Mod_24 rfl k) ?_
  refine sx_p (fun Z k => sh_iload_n dc_Mod_init_199 rfl rfl k) ?_
  refine sx_p (fun Z k => sh_iconst (v := (-1)) dc_Mod_init_200 (by decide) k) ?_
  refine sx_o (q := u5) (o := (true, 0, [.int (-1), .int (-1), .int (-1), .int 0, .int 0, .int 0])) (fun Z k => sh_iast (i := 2) dc_Mod_init_201 f1_2 rfl (by decide) rfl k) ?_
  intro h2 g2 e2
  have f2_0 : h2 a = some (false, 9, [.int 0, .ref u1, .ref u2, .ref u3, .ref u4, .ref u5, .ref u6, .ref u7, .ref u8, .ref u9, .ref u10, .double FP.dconst0, .ref u12, .ref u13, .ref u14, .ref u15, .ref u16, .ref u17, .ref u18, .ref u19, .ref u20, .ref u21, .ref u22, .ref u23, .int 0, .int 0]) := (e2 _ (by omega)).trans f1_0
  have f2_1 : h2 u4 = some (true, 0, [.int (-1), .int (-1), .int (-1), .int 0, .int 0, .int 0]) := (e2 _ (by omega)).trans f1_1
  have f2_2 : h2 u5 = some (true, 0, [.int (-1), .int (-1), .int (-1), .int 0, .int 0, .int 0]) := g2
  have w2 : ∀ q, q < n → q ≠ a → q ≠ u4 → q ≠ u5 → h2 q = h q := fun q hq na nu4 nu5 => (e2 q (by omega)).trans (w1 q hq na nu4 nu5)
  refine sx_p (fun Z k => sh_iinc (v := 3) dc_Mod_init_202 rfl (by decide) (by decide) k) ?_
  refine sx_p (fun Z k => sh_goto_ (tgt := 182) dc_Mod_init_205 (by decide) k) ?_
  exact k9 h2 f2_0 f2_1 f2_2 w2
theorem sx_Mod_init_t3 {n : Nat} {h : sh_Hp} {a : Nat} {u1 : Nat} {u2 : Nat} {u3 : Nat} {u4 : Nat} {u5 : Nat} {u6 : Nat} {u7 : Nat} {u8 : Nat} {u9 : Nat} {u10 : Nat} {u12 : Nat} {u13 : Nat} {u14 : Nat} {u15 : Nat} {u16 : Nat} {u17 : Nat} {u18 : Nat} {u19 : Nat} {u20 : Nat} {u21 : Nat} {u22 : Nat} {u23 : Nat} {cs ss : Nat} {v : Option Value} {P : Nat → sh_Hp → Prop} (h_a : a < n) (f_a : h a = some (false, 9, [.int 0, .ref u1, .ref u2, .ref u3, .ref u4, .ref u5, .ref u6, .ref u7, .ref u8, .ref u9, .ref u10, .double FP.dconst0, .ref u12, .ref u13, .ref u14, .ref u15, .ref u16, .ref u17, .ref u18, .ref u19, .ref u20, .ref u21, .ref u22, .ref u23, .int 0, .int 0])) (h_u4 : u4 < n) (f_u4 : h u4 = some (true, 0, [.int (-1), .int (-1), .int (-1), .int 0, .int 0, .int 0])) (h_u5 : u5 < n) (f_u5 : h u5 = some (true, 0, [.int (-1), .int (-1), .int (-1), .int 0, .int 0, .int 0])) (n1 : a ≠ u4) (n2 : a ≠ u5) (n3 : u4 ≠ u5) (k9 : ∀ h1 : sh_Hp, h1 a = some (false, 9, [.int 0, .ref u1, .ref u2, .ref u3, .ref u4, .ref u5, .ref u6, .ref u7, .ref u8, .ref u9, .ref u10, .double FP.dconst0, .ref u12, .ref u13, .ref u14, .ref u15, .ref u16, .ref u17, .ref u18, .ref u19, .ref u20, .ref u21, .ref u22, .ref u23, .int 0, .int 0]) → h1 u4 = some (true, 0, [.int (-1), .int (-1), .int (-1), .int (-1), .int 0, .int 0]) → h1 u5 = some (true, 0, [.int (-1), .int (-1), .int (-1), .int (-1), .int 0, .int 0]) → (∀ q, q < n → q ≠ a → q ≠ u4 → q ≠ u5 → h1 q = h q) → sx_W md_Mod_init (182, [(1, .int 4), (0, .ref a)], []) (n) h1 cs ss v P) : sx_W md_Mod_init (182, [(1, .int 3), (0, .ref a)], []) n h cs ss v P := by
  have w0 : ∀ q, q < n → q ≠ a → q ≠ u4 → q ≠ u5 → h q = h q := fun _ _ _ _ _ => rfl
  refine sx_p (fun Z k => sh_iload_n dc_Mod_init_182 rfl rfl k) ?_
  refine sx_p (fun Z k => sh_bipush (v := 6) dc_Mod_init_183 (by decide) k) ?_
  refine sx_p (fun Z k => sh_icmp_ge (tgt := 208) dc_Mod_init_185 (by decide) (fun z => absurd z (by decide)) (fun _ => k)) ?_
  refine sx_p (fun Z k => sh_aload_n dc_Mod_init_188 rfl rfl k) ?_
  refine sx_p (fun Z k => sh_get (k := 4) dc_Mod_init_189 f_a rfl (by decide) fl_Mod_20 rfl k) ?_
  refine sx_p (fun Z k => sh_iload_n dc_Mod_init_192 rfl rfl k) ?_
  refine sx_p (fun Z k => sh_iconst (v := (-1)) dc_Mod_init_193 (by decide) k) ?_
  refine sx_o (q := u4) (o := (true, 0, [.int (-1), .int (-1), .int (-1), .int (-1), .int 0, .int 0])) (fun Z k => sh_iast (i := 3) dc_Mod_init_194 f_u4 rfl (by decide) rfl k) ?_
  intro h1 g1 e1
  have f1_0 : h1 a = some (false, 9, [.int 0, .ref u1, .ref u2, .ref u3, .ref u4, .ref u5, .ref u6, .ref u7, .ref u8, .ref u9, .ref u10, .double FP.dconst0, .ref u12, .ref u13, .ref u14, .ref u15, .ref u16, .ref u17, .ref u18, .ref u19, .ref u20, .ref u21, .ref u22, .ref u23, .int 0, .int 0]) := (e1 _ (by omega)).trans f_a
  have f1_2 : h1 u5 = some (true, 0, [.int (-1), .int (-1), .int (-1), .int 0, .int 0, .int 0]) := (e1 _ (by omega)).trans f_u5
  have f1_1 : h1 u4 = some (true, 0, [.int (-1), .int (-1), .int (-1), .int (-1), .int 0, .int 0]) := g1
  have w1 : ∀ q, q < n → q ≠ a → q ≠ u4 → q ≠ u5 → h1 q = h q := fun q hq na nu4 nu5 => (e1 q (by omega)).trans (w0 q hq na nu4 nu5)
  refine sx_p (fun Z k => sh_aload_n dc_Mod_init_195 rfl rfl k) ?_
  refine sx_p (fun Z k => sh_get (k := 5) dc_Mod_init_196 f1_0 rfl (by decide) fl_Mod_24 rfl k) ?_
  refine sx_p (fun Z k => sh_iload_n dc_Mod_init_199 rfl rfl k) ?_
  refine sx_p (fun Z k => sh_iconst (v := (-1)) dc_Mod_init_200 (by decide) k) ?_
  refine sx_o (q := u5) (o := (true, 0, [.int (-1), .int (-1), .int (-1), .int (-1), .int 0, .int 0])) (fun Z k => sh_iast (i := 3) dc_Mod_init_201 f1_2 rfl (by decide) rfl k) ?_
  intro h2 g2 e2
  have f2_0 : h2 a = some (false, 9, [.int 0, .ref u1, .ref u2, .ref u3, .ref u4, .ref u5, .ref u6, .ref u7, .ref u8, .ref u9, .ref u10, .double FP.dconst0, .ref u12, .ref u13, .ref u14, .ref u15, .ref u16, .ref u17, .ref u18, .ref u19, .ref u20, .ref u21, .ref u22, .ref u23, .int 0, .int 0]) := (e2 _ (by omega)).trans f1_0
  have f2_1 : h2 u4 = some (true, 0, [.int (-1), .int (-1), .int (-1), .int (-1), .int 0, .int 0]) := (e2 _ (by omega)).trans f1_1
  have f2_2 : h2 u5 = some (true, 0, [.int (-1), .int (-1), .int (-1), .int (-1), .int 0, .int 0]) := g2
  have w2 : ∀ q, q < n → q ≠ a → q ≠ u4 → q ≠ u5 → h2 q = h q := fun q hq na nu4 nu5 => (e2 q (by omega)).trans (w1 q hq na nu4 nu5)
  refine sx_p (fun Z k => sh_iinc (v := 4) dc_Mod_init_202 rfl (by decide) (by decide) k) ?_
  refine sx_p (fun Z k => sh_goto_ (tgt := 182) dc_Mod_init_205 (by decide) k) ?_
  exact k9 h2 f2_0 f2_1 f2_2 w2
theorem sx_Mod_init_t4 {n : Nat} {h : sh_Hp} {a : Nat} {u1 : Nat} {u2 : Nat} {u3 : Nat} {u4 : Nat} {u5 : Nat} {u6 : Nat} {u7 : Nat} {u8 : Nat} {u9 : Nat} {u10 : Nat} {u12 : Nat} {u13 : Nat} {u14 : Nat} {u15 : Nat} {u16 : Nat} {u17 : Nat} {u18 : Nat} {u19 : Nat} {u20 : Nat} {u21 : Nat} {u22 : Nat} {u23 : Nat} {cs ss : Nat} {v : Option Value} {P : Nat → sh_Hp → Prop} (h_a : a < n) (f_a : h a = some (false, 9, [.int 0, .ref u1, .ref u2, .ref u3, .ref u4, .ref u5, .ref u6, .ref u7, .ref u8, .ref u9, .ref u10, .double FP.dconst0, .ref u12, .ref u13, .ref u14, .ref u15, .ref u16, .ref u17, .ref u18, .ref u19, .ref u20, .ref u21, .ref u22, .ref u23, .int 0, .int 0])) (h_u4 : u4 < n) (f_u4 : h u4 = some (true, 0, [.int (-1), .int (-1), .int (-1), .int (-1), .int 0, .int 0])) (h_u5 : u5 < n) (f_u5 : h u5 = some (true, 0, [.int (-1), .int (-1), .int (-1), .int (-1), .int 0, .int 0])) (n1 : a ≠ u4) (n2 : a ≠ u5) (n3 : u4 ≠ u5) (k9 : ∀ h1 : sh_Hp, h1 a = some (false, 9, [.int 0, .ref u1, .ref u2, .ref u3, .ref u4, .ref u5, .ref u6, .ref u7, .ref u8, .ref u9, .ref u10, .double FP.dconst0, .ref u12, .ref u13, .ref u14, .ref u15, .ref u16, .ref u17, .ref u18, .ref u19, .ref u20, .ref u21, .ref u22, .ref u23, .int 0, .int 0]) → h1 u4 = some (true, 0, [.int (-1), .int (-1), .int (-1), .int (-1), .int (-1), .int 0]) → h1 u5 = some (true, 0, [.int (-1), .int (-1), .int (-1), .int (-1), .int (-1), .int 0]) → (∀ q, q < n → q ≠ a → q ≠ u4 → q ≠ u5 → h1 q = h q) → sx_W md_Mod_init (182, [(1, .int 5), (0, .ref a)], []) (n) h1 cs ss v P) : sx_W md_Mod_init (182, [(1, .int 4), (0, .ref a)], []) n h cs ss v P := by
  have w0 : ∀ q, q < n → q ≠ a → q ≠ u4 → q ≠ u5 → h q = h q := fun _ _ _ _ _ => rfl
  refine sx_p (fun Z k => sh_iload_n dc_Mod_init_182 rfl rfl k) ?_
  refine sx_p (fun Z k => sh_bipush (v := 6) dc_Mod_init_183 (by decide) k) ?_
  refine sx_p (fun Z k => sh_icmp_ge (tgt := 208) dc_Mod_init_185 (by decide) (fun z => absurd z (by decide)) (fun _ => k)) ?_
  refine sx_p (fun Z k => sh_aload_n dc_Mod_init_188 rfl rfl k) ?_
  refine sx_p (fun Z k => sh_get (k := 4) dc_Mod_init_189 f_a rfl (by decide) fl_Mod_20 rfl k) ?_
  refine sx_p (fun Z k => sh_iload_n dc_Mod_init_192 rfl rfl k) ?_
  refine sx_p (fun Z k => sh_iconst (v := (-1)) dc_Mod_init_193 (by decide) k) ?_
  refine sx_o (q := u4) (o := (true, 0, [.int (-1), .int (-1), .int (-1), .int (-1), .int (-1), .int 0])) (fun Z k => sh_iast (i := 4) dc_Mod_init_194 f_u4 rfl (by decide) rfl k) ?_
  intro h1 g1 e1
  have f1_0 : h1 a = some (false, 9, [.int 0, .ref u1, .ref u2, .ref u3, .ref u4, .ref u5, .ref u6, .ref u7, .ref u8, .ref u9, .ref u10, .double FP.dconst0, .ref u12, .ref u13, .ref u14, .ref u15, .ref u16, .ref u17, .ref u18, .ref u19, .ref u20, .ref u21, .ref u22, .ref u23, .int 0, .int 0]) := (e1 _ (by omega)).trans f_a
  have f1_2 : h1 u5 = some (true, 0, [.int (-1), .int (-1), .int (-1), .int (-1), .int 0, .int 0]) := (e1 _ (by omega)).trans f_u5
  have f1_1 : h1 u4 = some (true, 0, [.int (-1), .int (-1), .int (-1), .int (-1), .int (-1), .int 0]) := g1
  have w1 : ∀ q, q < n → q ≠ a → q ≠ u4 → q ≠ u5 → h1 q = h q := fun q hq na nu4 nu5 => (e1 q (by omega)).trans (w0 q hq na nu4 nu5)
  refine sx_p (fun Z k => sh_aload_n dc_Mod_init_195 rfl rfl k) ?_
  refine sx_p (fun Z k => sh_get (k := 5) dc_Mod_init_196 f1_0 rfl (by decide) fl_Mod_24 rfl k) ?_
  refine sx_p (fun Z k => sh_iload_n dc_Mod_init_199 rfl rfl k) ?_
  refine sx_p (fun Z k => sh_iconst (v := (-1)) dc_Mod_init_200 (by decide) k) ?_
  refine sx_o (q := u5) (o := (true, 0, [.int (-1), .int (-1), .int (-1), .int (-1), .int (-1), .int 0])) (fun Z k => sh_iast (i := 4) dc_Mod_init_201 f1_2 rfl (by decide) rfl k) ?_
  intro h2 g2 e2
  have f2_0 : h2 a = some (false, 9, [.int 0, .ref u1, .ref u2, .ref u3, .ref u4, .ref u5, .ref u6, .ref u7, .ref u8, .ref u9, .ref u10, .double FP.dconst0, .ref u12, .ref u13, .ref u14, .ref u15, .ref u16, .ref u17, .ref u18, .ref u19, .ref u20, .ref u21, .ref u22, .ref u23, .int 0, .int 0]) := (e2 _ (by omega)).trans f1_0
  have f2_1 : h2 u4 = some (true, 0, [.int (-1), .int (-1), .int (-1), .int (-1), .int (-1), .int 0]) := (e2 _ (by omega)).trans f1_1
  have f2_2 : h2 u5 = some (true, 0, [.int (-1), .int (-1), .int (-1), .int (-1), .int (-1), .int 0]) := g2
  have w2 : ∀ q, q < n → q ≠ a → q ≠ u4 → q ≠ u5 → h2 q = h q := fun q hq na nu4 nu5 => (e2 q (by omega)).trans (w1 q hq na nu4 nu5)
  refine sx_p (fun Z k => sh_iinc (v := 5) dc_Mod_init_202 rfl (by decide) (by decide) k) ?_
  refine sx_p (fun Z k => sh_goto_ (tgt := 182) dc_Mod_init_205 (by decide) k) ?_
  exact k9 h2 f2_0 f2_1 f2_2 w2
theorem sx_Mod_init_t5 {n : Nat} {h : sh_Hp} {a : Nat} {u1 : Nat} {u2 : Nat} {u3 : Nat} {u4 : Nat} {u5 : Nat} {u6 : Nat} {u7 : Nat} {u8 : Nat} {u9 : Nat} {u10 : Nat} {u12 : Nat} {u13 : Nat} {u14 : Nat} {u15 : Nat} {u16 : Nat} {u17 : Nat} {u18 : Nat} {u19 : Nat} {u20 : Nat} {u21 : Nat} {u22 : Nat} {u23 : Nat} {cs ss : Nat} {v : Option Value} {P : Nat → sh_Hp → Prop} (h_a : a < n) (f_a : h a = some (false, 9, [.int 0, .ref u1, .ref u2, .ref u3, .ref u4, .ref u5, .ref u6, .ref u7, .ref u8, .ref u9, .ref u10, .double FP.dconst0, .ref u12, .ref u13, .ref u14, .ref u15, .ref u16, .ref u17, .ref u18, .ref u19, .ref u20, .ref u21, .ref u22, .ref u23, .int 0, .int 0])) (h_u4 : u4 < n) (f_u4 : h u4 = some (true, 0, [.int (-1), .int (-1), .int (-1), .int (-1), .int (-1), .int 0])) (h_u5 : u5 < n) (f_u5 : h u5 = some (true, 0, [.int (-1), .int (-1), .int (-1), .int (-1), .int (-1), .int 0])) (n1 : a ≠ u4) (n2 : a ≠ u5) (n3 : u4 ≠ u5) (k9 : ∀ h1 : sh_Hp, h1 a = some (false, 9, [.int 0, .ref u1, .ref u2, .ref u3, .ref u4, .ref u5, .ref u6, .ref u7, .ref u8, .ref u9, .ref u10, .double FP.dconst0, .ref u12, .ref u13, .ref u14, .ref u15, .ref u16, .ref u17, .ref u18, .ref u19, .ref u20, .ref u21, .ref u22, .ref u23, .int 0, .int 0]) → h1 u4 = some (true, 0, [.int (-1), .int (-1), .int (-1), .int (-1), .int (-1), .int (-1)]) → h1 u5 = some (true, 0, [.int (-1), .int (-1), .int (-1), .int (-1), .int (-1), .int (-1)]) → (∀ q, q < n → q ≠ a → q ≠ u4 → q ≠ u5 → h1 q = h q) → sx_W md_Mod_init (182, [(1, .int 6), (0, .ref a)], []) (n) h1 cs ss v P) : sx_W md_Mod_init (182, [(1, .int 5), (0, .ref a)], []) n h cs ss v P := by
  have w0 : ∀ q, q < n → q ≠ a → q ≠ u4 → q ≠ u5 → h q = h q := fun _ _ _ _ _ => rfl
  refine sx_p (fun Z k => sh_iload_n dc_Mod_init_182 rfl rfl k) ?_
  refine sx_p (fun Z k => sh_bipush (v := 6) dc_Mod_init_183 (by decide) k) ?_
  refine sx_p (fun Z k => sh_icmp_ge (tgt := 208) dc_Mod_init_185 (by decide) (fun z => absurd z (by decide)) (fun _ => k)) ?_
  refine sx_p (fun Z k => sh_aload_n dc_Mod_init_188 rfl rfl k) ?_
  refine sx_p (fun Z k => sh_get (k := 4) dc_Mod_init_189 f_a rfl (by decide) fl_Mod_20 rfl k) ?_
  refine sx_p (fun Z k => sh_iload_n dc_Mod_init_192 rfl rfl k) ?_
  refine sx_p (fun Z k => sh_iconst (v := (-1)) dc_Mod_init_193 (by decide) k) ?_
  refine sx_o (q := u4) (o := (true, 0, [.int (-1), .int (-1), .int (-1), .int (-1), .int (-1), .int (-1)])) (fun Z k => sh_iast (i := 5) dc_Mod_init_194 f_u4 rfl (by decide) rfl k) ?_
  intro h1 g1 e1
  have f1_0 : h1 a = some (false, 9, [.int 0, .ref u1, .ref u2, .ref u3, .ref u4, .ref u5, .ref u6, .ref u7, .ref u8, .ref u9, .ref u10, .double FP.dconst0, .ref u12, .ref u13, .ref u14, .ref u15, .ref u16, .ref u17, .ref u18, .ref u19, .ref u20, .ref u21, .ref u22, .ref u23, .int 0, .int 0]) := (e1 _ (by omega)).trans f_a
  have f1_2 : h1 u5 = some (true, 0, [.int (-1), .int (-1), .int (-1), .int (-1), .int (-1), .int 0]) := (e1 _ (by omega)).trans f_u5
  have f1_1 : h1 u4 = some (true, 0, [.int (-1), .int (-1), .int (-1), .int (-1), .int (-1), .int (-1)]) := g1
  have w1 : ∀ q, q < n → q ≠ a → q ≠ u4 → q ≠ u5 → h1 q = h q := fun q hq na nu4 nu5 => (e1 q (by omega)).trans (w0 q hq na nu4 nu5)
  refine sx_p (fun Z k => sh_aload_n dc_Mod_init_195 rfl rfl k) ?_
  refine sx_p (fun Z k => sh_get (k := 5) dc_Mod_init_196 f1_0 rfl (by decide) fl_Mod_24 rfl k) ?_
  refine sx_p (fun Z k => sh_iload_n dc_Mod_init_199 rfl rfl k) ?_
  refine sx_p (fun Z k => sh_iconst (v := (-1)) dc_Mod_init_200 (by decide) k) ?_
  refine sx_o (q := u5) (o := (true, 0, [.int (-1), .int (-1), .int (-1), .int (-1), .int (-1), .int (-1)])) (fun Z k => sh_iast (i := 5) dc_Mod_init_201 f1_2 rfl (by decide) rfl k) ?_
  intro h2 g2 e2
  have f2_0 : h2 a = some (false, 9, [.int 0, .ref u1, .ref u2, .ref u3, .ref u4, .ref u5, .ref u6, .ref u7, .ref u8, .ref u9, .ref u10, .double FP.dconst0, .ref u12, .ref u13, .ref u14, .ref u15, .ref u16, .ref u17, .ref u18, .ref u19, .ref u20, .ref u21, .ref u22, .ref u23, .int 0, .int 0]) := (e2 _ (by omega)).trans f1_0
  have f2_1 : h2 u4 = some (true, 0, [.int (-1), .int (-1), .int (-1), .int (-1), .int (-1), .int (-1)]) := (e2 _ (by omega)).trans f1_1
  have f2_2 : h2 u5 = some (true, 0, [.int (-1), .int (-1), .int (-1), .int (-1), .int (-1), .int (-1)]) := g2
  have w2 : ∀ q, q < n → q ≠ a → q ≠ u4 → q ≠ u5 → h2 q = h q := fun q hq na nu4 nu5 => (e2 q (by omega)).trans (w1 q hq na nu4 nu5)
  refine sx_p (fun Z k => sh_iinc (v := 6) dc_Mod_init_202 rfl (by decide) (by decide) k) ?_
  refine sx_p (fun Z k => sh_goto_ (tgt := 182) dc_Mod_init_205 (by decide) k) ?_
  exact k9 h2 f2_0 f2_1 f2_2 w2
theorem sx_Mod_init_s0 {n : Nat} {h : sh_Hp} {a : Nat} {u1 : Nat} {u2 : Nat} {u3 : Nat} {u4 : Nat} {u5 : Nat} {u6 : Nat} {u7 : Nat} {u8 : Nat} {u9 : Nat} {u10 : Nat} {u12 : Nat} {u13 : Nat} {u14 : Nat} {u15 : Nat} {u16 : Nat} {u17 : Nat} {u18 : Nat} {u19 : Nat} {u20 : Nat} {u21 : Nat} {u22 : Nat} {u23 : Nat} {cs ss : Nat} {v : Option Value} {P : Nat → sh_Hp → Prop} (h_a : a < n) (f_a : h a = some (false, 9, [.int 0, .ref u1, .ref u2, .ref u3, .ref u4, .ref u5, .ref u6, .ref u7, .ref u8, .ref u9, .ref u10, .double FP.dconst0, .ref u12, .ref u13, .ref u14, .ref u15, .ref u16, .ref u17, .ref u18, .ref u19, .ref u20, .ref u21, .ref u22, .ref u23, .int 0, .int 0])) (h_u12 : u12 < n) (f_u12 : h u12 = some (true, 0, List.replicate 8 (.int 0))) (h_u13 : u13 < n) (f_u13 : h u13 = some (true, 0, List.replicate 8 (.int 0))) (n1 : a ≠ u12) (n2 : a ≠ u13) (n3 : u12 ≠ u13) (k9 : ∀ h1 : sh_Hp, h1 a = some (false, 9, [.int 0, .ref u1, .ref u2, .ref u3, .ref u4, .ref u5, .ref u6, .ref u7, .ref u8, .ref u9, .ref u10, .double FP.dconst0, .ref u12, .ref u13, .ref u14, .ref u15, .ref u16, .ref u17, .ref u18, .ref u19, .ref u20, .ref u21, .ref u22, .ref u23, .int 0, .int 0]) → h1 u12 = some (true, 0, [.int (-1), .int 0, .int 0, .int 0, .int 0, .int 0, .int 0, .int 0]) → h1 u13 = some (true, 0, [.int (-1), .int 0, .int 0, .int 0, .int 0, .int 0, .int 0, .int 0]) → (∀ q, q < n → q ≠ a → q ≠ u12 → q ≠ u13 → h1 q = h q) → sx_W md_Mod_init (210, [(1, .int 1), (0, .ref a)], []) (n) h1 cs ss v P) : sx_W md_Mod_init (210, [(1, .int 0), (0, .ref a)], []) n h cs ss v P := by
  have w0 : ∀ q, q < n → q ≠ a → q ≠ u12 → q ≠ u13 → h q = h q := fun _ _ _ _ _ => rfl
  refine sx_p (fun Z k => sh_iload_n dc_Mod_init_210 rfl rfl k) ?_
  refine sx_p (fun Z k => sh_bipush (v := 8) dc_Mod_init_211 (by decide) k) ?_
  refine sx_p (fun Z k => sh_icmp_ge (tgt := 236) dc_Mod_init_213 (by decide) (fun z => absurd z (by decide)) (fun _ => k)) ?_
  refine sx_p (fun Z k => sh_aload_n dc_Mod_init_216 rfl rfl k) ?_
  refine sx_p (fun Z k => sh_get (k := 12) dc_Mod_init_217 f_a rfl (by decide) fl_Mod_42 rfl k) ?_
  refine sx_p (fun Z k => sh_iload_n dc_Mod_init_220 rfl rfl k) ?_
  refine sx_p (fun Z k => sh_iconst (v := (-1)) dc_Mod_init_221 (by decide) k) ?_
  refine sx_o (q := u12) (o := (true, 0, [.int (-1), .int 0, .int 0, .int 0, .int 0, .int 0, .int 0, .int 0])) (fun Z k => sh_iast (i := 0) dc_Mod_init_222 f_u12 rfl (by decide) rfl k) ?_
  intro h1 g1 e1
  have f1_0 : h1 a = some (false, 9, [.int 0, .ref u1, .ref u2, .ref u3, .ref u4, .ref u5, .ref u6, .ref u7, .ref u8, .ref u9, .ref u10, .double FP.dconst0, .ref u12, .ref u13, .ref u14, .ref u15, .ref u16, .ref u17, .ref u18, .ref u19, .ref u20, .ref u21, .ref u22, .ref u23, .int 0, .int 0]) := (e1 _ (by omega)).trans f_a
  have f1_2 : h1 u13 = some (true, 0, List.replicate 8 (.int 0)) := (e1 _ (by omega)).trans f_u13
  have f1_1 : h1 u12 = some (true, 0, [.int (-1), .int 0, .int 0, .int 0, .int 0, .int 0, .int 0, .int 0]) := g1
  have w1 : ∀ q, q < n → q ≠ a → q ≠ u12 → q ≠ u13 → h1 q = h q := fun q hq na nu12 nu13 => (e1 q (by omega)).trans (w0 q hq na nu12 nu13)
  refine sx_p (fun Z k => sh_aload_n dc_Mod_init_223 rfl rfl k) ?_
  refine sx_p (fun Z k => sh_get (k := 13) dc_Mod_init_224 f1_0 rfl (by decide) fl_Mod_45 rfl k) ?_
  refine sx_p (fun Z k => sh_iload_n dc_Mod_init_227 rfl rfl k) ?_
  refine sx_p (fun Z k => sh_iconst (v := (-1)) dc_Mod_init_228 (by decide) k) ?_
  refine sx_o (q := u13) (o := (true, 0, [.int (-1), .int 0, .int 0, .int 0, .int 0, .int 0, .int 0, .int 0])) (fun Z k => sh_iast (i := 0) dc_Mod_init_229 f1_2 rfl (by decide) rfl k) ?_
  intro h2 g2 e2
  have f2_0 : h2 a = some (false, 9, [.int 0, .ref u1, .ref u2, .ref u3, .ref u4, .ref u5, .ref u6, .ref u7, .ref u8, .ref u9, .ref u10, .double FP.dconst0, .ref u12, .ref u13, .ref u14, .ref u15, .ref u16, .ref u17, .ref u18, .ref u19, .ref u20, .ref u21, .ref u22, .ref u23, .int 0, .int 0]) := (e2 _ (by omega)).trans f1_0
  have f2_1 : h2 u12 = some (true, 0, [.int (-1), .int 0, .int 0, .int 0, .int 0, .int 0, .int 0, .int 0]) := (e2 _ (by omega)).trans f1_1
  have f2_2 : h2 u13 = some (true, 0, [.int (-1), .int 0, .int 0, .int 0, .int 0, .int 0, .int 0, .int 0]) := g2
  have w2 : ∀ q, q < n → q ≠ a → q ≠ u12 → q ≠ u13 → h2 q = h q := fun q hq na nu12 nu13 => (e2 q (by omega)).trans (w1 q hq na nu12 nu13)
  refine sx_p (fun Z k => sh_iinc (v := 1) dc_Mod_init_230 rfl (by decide) (by decide) k) ?_
  refine sx_p (fun Z k => sh_goto_ (tgt := 210) dc_Mod_init_233 (by decide) k) ?_
  exact k9 h2 f2_0 f2_1 f2_2 w2
theorem sx_Mod_init_s1 {n : Nat} {h : sh_Hp} {a : Nat} {u1 : Nat} {u2 : Nat} {u3 : Nat} {u4 : Nat} {u5 : Nat} {u6 : Nat} {u7 : Nat} {u8 : Nat} {u9 : Nat} {u10 : Nat} {u12 : Nat} {u13 : Nat} {u14 : Nat} {u15 : Nat} {u16 : Nat} {u17 : Nat} {u18 : Nat} {u19 : Nat} {u20 : Nat} {u21 : Nat} {u22 : Nat} {u23 : Nat} {cs ss : Nat} {v : Option Value} {P : Nat → sh_Hp → Prop} (h_a : a < n) (f_a : h a = some (false, 9, [.int 0, .ref u1, .ref u2, .ref u3, .ref u4, .ref u5, .ref u6, .ref u7, .ref u8, .ref u9, .ref u10, .double FP.dconst0, .ref u12, .ref u13, .ref u14, .ref u15, .ref u16, .ref u17, .ref u18, .ref u19, .ref u20, .ref u21, .ref u22, .ref u23, .int 0, .int 0])) (h_u12 : u12 < n) (f_u12 : h u12 = some (true, 0, [.int (-1), .int 0, .int 0, .int 0, .int 0, .int 0, .int 0, .int 0])) (h_u13 : u13 < n) (f_u13 : h u13 = some (true, 0, [.int (-1), .int 0, .int 0, .int 0, .int 0, .int 0, .int 0, .int 0])) (n1 : a ≠ u12) (n2 : a ≠ u13) (n3 : u12 ≠ u13) (k9 : ∀ h1 : sh_Hp, h1 a = some (false, 9, [.int 0, .ref u1, .ref u2, .ref u3, .ref u4, .ref u5, .ref u6, .ref u7, .ref u8, .ref u9, .ref u10, .double FP.dconst0, .ref u12, .ref u13, .ref u14, .ref u15, .ref u16, .ref u17, .ref u18, .ref u19, .ref u20, .ref u21, .ref u22, .ref u23, .int 0, .int 0]) → h1 u12 = some (true, 0, [.int (-1), .int (-1), .int 0, .int 0, .int 0, .int 0, .int 0, .int 0]) → h1 u13 = some (true, 0, [.int (-1), .int (-1), .int 0, .int 0, .int 0, .int 0, .int 0, .int 0]) → (∀ q, q < n → q ≠ a → q ≠ u12 → q ≠ u13 → h1 q = h q) → sx_W md_Mod_init (210, [(1, .int 2), (0, .ref a)], []) (n) h1 cs ss v P) : sx_W md_Mod_init (210, [(1, .int 1), (0, .ref a)], []) n h cs ss v P := by
  have w0 : ∀ q, q < n → q ≠ a → q ≠ u12 → q ≠ u13 → h q = h q := fun _ _ _ _ _ => rfl
  refine sx_p (fun Z k => sh_iload_n dc_Mod_init_210 rfl rfl k) ?_
  refine sx_p (fun Z k => sh_bipush (v := 8) dc_Mod_init_211 (by decide) k) ?_
  refine sx_p (fun Z k => sh_icmp_ge (tgt := 236) dc_Mod_init_213 (by decide) (fun z => absurd z (by decide)) (fun _ => k)) ?_
  refine sx_p (fun Z k => sh_aload_n dc_Mod_init_216 rfl rfl k) ?_
  refine sx_p (fun Z k => sh_get (k := 12) dc_Mod_init_217 f_a rfl (by decide) fl_Mod_42 rfl k) ?_
  refine sx_p (fun Z k => sh_iload_n dc_Mod_init_220 rfl rfl k) ?_
  refine sx_p (fun Z k => sh_iconst (v := (-1)) dc_Mod_init_221 (by decide) k) ?_
  refine sx_o (q := u12) (o := (true, 0, [.int (-1), .int (-1), .int 0, .int 0, .int 0, .int 0, .int 0, .int 0])) (fun Z k => sh_iast (i := 1) dc_Mod_init_222 f_u12 rfl (by decide) rfl k) ?_
  intro h1 g1 e1
  have f1_0 : h1 a = some (false, 9, [.int 0, .ref u1, .ref u2, .ref u3, .ref u4, .ref u5, .ref u6, .ref u7, .ref u8, .ref u9, .ref u10, .double FP.dconst0, .ref u12, .ref u13, .ref u14, .ref u15, .ref u16, .ref u17, .ref u18, .ref u19, .ref u20, .ref u21, .ref u22, .ref u23, .int 0, .int 0]) := (e1 _ (by omega)).trans f_a
  have f1_2 : h1 u13 = some (true, 0, [.int (-1), .int 0, .int 0, .int 0, .int 0, .int 0, .int 0, .int 0]) := (e1 _ (by omega)).trans f_u13
  have f1_1 : h1 u12 = some (true, 0, [.int (-1), .int (-1), .int 0, .int 0, .int 0, .int 0, .int 0, .int 0]) := g1
  have w1 : ∀ q, q < n → q ≠ a → q ≠ u12 → q ≠ u13 → h1 q = h q := fun q hq na nu12 nu13 => (e1 q (by omega)).trans (w0 q hq na nu12 nu13)
  refine sx_p (fun Z k => sh_aload_n dc_Mod_init_223 rfl rfl k) ?_
  refine sx_p (fun Z k => sh_get (k := 13) dc_Mod_init_224 f1_0 rfl (by decide) fl_Mod_45 rfl k) ?_
  refine sx_p (fun Z k => sh_iload_n dc_Mod_init_227 rfl rfl k) ?_
  refine sx_p (fun Z k => sh_iconst (v := (-1)) dc_Mod_init_228 (by decide) k) ?_
  refine sx_o (q := u13) (o := (true, 0, [.int (-1), .int (-1), .int 0, .int 0, .int 0, .int 0, .int 0, .int 0])) (fun Z k => sh_iast (i := 1) dc_Mod_init_229 f1_2 rfl (by decide) rfl k) ?_
  intro h2 g2 e2
  have f2_0 : h2 a = some (false, 9, [.int 0, .ref u1, .ref u2, .ref u3, .ref u4, .ref u5, .ref u6, .ref u7, .ref u8, .ref u9, .ref u10, .double FP.dconst0, .ref u12, .ref u13, .ref u14, .ref u15, .ref u16, .ref u17, .ref u18, .ref u19, .ref u20, .ref u21, .ref u22, .ref u23, .int 0, .int 0]) := (e2 _ (by omega)).trans f1_0
  have f2_1 : h2 u12 = some (true, 0, [.int (-1), .int (-1), .int 0, .int 0, .int 0, .int 0, .int 0, .int 0]) := (e2 _ (by omega)).trans f1_1
  have f2_2 : h2 u13 = some (true, 0, [.int (-1), .int (-1), .int 0, .int 0, .int 0, .int 0, .int 0, .int 0]) := g2
  have w2 : ∀ q, q < n → q ≠ a → q ≠ u12 → q ≠ u13 → h2 q = h q := fun q hq na nu12 nu13 => (e2 q (by omega)).trans (w1 q hq na nu12 nu13)
  refine sx_p (fun Z k => sh_iinc (v := 2) dc_Mod_init_230 rfl (by decide) (by decide) k) ?_
  refine sx_p (fun Z k => sh_goto_ (tgt := 210) dc_Mod_init_233 (by decide) k) ?_
  exact k9 h2 f2_0 f2_1 f2_2 w2
theorem sx_Mod_init_s2 {n : Nat} {h : sh_Hp} {a : Nat} {u1 : Nat} {u2 : Nat} {u3 : Nat} {u4 : Nat} {u5 : Nat} {u6 : Nat} {u7 : Nat} {u8 : Nat} {u9 : Nat} {u10 : Nat} {u12 : Nat} {u13 : Nat} {u14 : Nat} {u15 : Nat} {u16 : Nat} {u17 : Nat} {u18 : Nat} {u19 : Nat} {u20 : Nat} {u21 : Nat} {u22 : Nat} {u23 : Nat} {cs ss : Nat} {v : Option Value} {P : Nat → sh_Hp → Prop} (h_a : a < n) (f_a : h a = some (false, 9, [.int 0, .ref u1, .ref u2, .ref u3, .ref u4, .ref u5, .ref u6, .ref u7, .ref u8, .ref u9, .ref u10, .double FP.dconst0, .ref u12, .ref u13, .ref u14, .ref u15, .ref u16, .ref u17, .ref u18, .ref u19, .ref u20, .ref u21, .ref u22, .ref u23, .int 0, .int 0])) (h_u12 : u12 < n) (f_u12 : h u12 = some (true, 0, [.int (-1), .int (-1), .int 0, .int 0, .int 0, .int 0, .int 0, .int 0])) (h_u13 : u13 < n) (f_u13 : h u13 = some (true, 0, [.int (-1), .int (-1), .int 0, .int 0, .int 0, .int 0, .int 0, .int 0])) (n1 : a ≠ u12) (n2 : a ≠ u13) (n3 : u12 ≠ u13) (k9 : ∀ h1 : sh_Hp, h1 a = some (false, 9, [.int 0, .ref u1, .ref u2, .ref u3, .ref u4, .ref u5, .ref u6, .ref u7, .ref u8, .ref u9, .ref u10, .double FP.dconst0, .ref u12, .ref u13, .ref u14, .ref u15, .ref u16, .ref u17, .ref u18, .ref u19, .ref u20, .ref u21, .ref u22, .ref u23, .int 0, .int 0]) → h1 u12 = some (true, 0, [.int (-1), .int (-1), .int (-1), .int 0, .int 0, .int 0, .int 0, .int 0]) → h1 u13 = some (true, 0, [.int (-1), .int (-1), .int (-1), .int 0, .int 0, .int 0, .int 0, .int 0]) → (∀ q, q < n → q ≠ a → q ≠ u12 → q ≠ u13 → h1 q = h q) → sx_W md_Mod_init (210, [(1, .int 3), (0, .ref a)], []) (n) h1 cs ss v P) : sx_W md_Mod_init (210, [(1, .int 2), (0, .ref a)], []) n h cs ss v P := by
  have w0 : ∀ q, q < n → q ≠ a → q ≠ u12 → q ≠ u13 → h q = h q := fun _ _ _ _ _ => rfl
  refine sx_p (fun Z k => sh_iload_n dc_Mod_init_210 rfl rfl k) ?_
  refine sx_p (fun Z k => sh_bipush (v := 8) dc_Mod_init_211 (by decide) k) ?_
  refine sx_p (fun Z k => sh_icmp_ge (tgt := 236) dc_Mod_init_213 (by decide) (fun z => absurd z (by decide)) (fun _ => k)) ?_
  refine sx_p (fun Z k => sh_aload_n dc_Mod_init_216 rfl rfl k) ?_
  refine sx_p (fun Z k => sh_get (k := 12) dc_Mod_init_217 f_a rfl (by decide) fl_Mod_42 rfl k) ?_
  refine sx_p (fun Z k => sh_iload_n dc_Mod_init_220 rfl rfl k) ?_
  refine sx_p (fun Z k => sh_iconst (v := (-1)) dc_Mod_init_221 (by decide) k) ?_
  refine sx_o (q := u12) (o := (true, 0, [.int (-1), .int (-1), .int (-1), .int 0, .int 0, .int 0, .int 0, .int 0])) (fun Z k => sh_iast (i := 2) dc_Mod_init_222 f_u12 rfl (by decide) rfl k) ?_
  intro h1 g1 e1
  have f1_0 : h1 a = some (false, 9, [.int 0, .ref u1, .ref u2, .ref u3, .ref u4, .ref u5, .ref u6, .ref u7, .ref u8, .ref u9, .ref u10, .double FP.dconst0, .ref u12, .ref u13, .ref u14, .ref u15, .ref u16, .ref u17, .ref u18, .ref u19, .ref u20, .ref u21, .ref u22, .ref u23, .int 0, .int 0]) := (e1 _ (by omega)).trans f_a
  have f1_2 : h1 u13 = some (true, 0, [.int (-1), .int (-1), .int 0, .int 0, .int 0, .int 0, .int 0, .int 0]) := (e1 _ (by omega)).trans f_u13
  have f1_1 : h1 u12 = some (true, 0, [.int (-1), .int (-1), .int (-1), .int 0, .int 0, .int 0, .int 0, .int 0]) := g1
  have w1 : ∀ q, q < n → q ≠ a → q ≠ u12 → q ≠ u13 → h1 q = h q := fun q hq na nu12 nu13 => (e1 q (by omega)).trans (w0 q hq na nu12 nu13)
  refine sx_p (fun Z k => sh_aload_n dc_Mod_init_223 rfl rfl k) ?_
  refine sx_p (fun Z k => sh_get (k := 13) dc_Mod_init_224 f1_0 rfl (by decide) fl_Mod_45 rfl k) ?_
  refine sx_p (fun Z k => sh_iload_n dc_Mod_init_227 rfl rfl k) ?_
  refine sx_p (fun Z k => sh_iconst (v := (-1)) dc_Mod_init_228 (by decide) k) ?_
  refine sx_o (q := u13) (o := (true, 0, [.int (-1), .int (-1), .int (-1), .int 0, .int 0, .int 0, .int 0, .int 0])) (fun Z k => sh_iast (i := 2) dc_Mod_init_229 f1_2 rfl (by decide) rfl k) ?_
  intro h2 g2 e2
  have f2_0 : h2 a = some (false, 9, [.int 0, .ref u1, .ref u2, .ref u3, .ref u4, .ref u5, .ref u6, .ref u7, .ref u8, .ref u9, .ref u10, .double FP.dconst0, .ref u12, .ref u13, .ref u14, .ref u15, .ref u16, .ref u17, .ref u18, .ref u19, .ref u20, .ref u21, .ref u22, .ref u23, .int 0, .int 0]) := (e2 _ (by omega)).trans f1_0
  have f2_1 : h2 u12 = some (true, 0, [.int (-1), .int (-1), .int (-1), .int 0, .int 0, .int 0, .int 0, .int 0]) := (e2 _ (by omega)).trans f1_1
  have f2_2 : h2 u13 = some (true, 0, [.int (-1), .int (-1), .int (-1), .int 0, .int 0, .int 0, .int 0, .int 0]) := g2
  have w2 : ∀ q, q < n → q ≠ a → q ≠ u12 → q ≠ u13 → h2 q = h q := fun q hq na nu12 nu13 => (e2 q (by omega)).trans (w1 q hq na nu12 nu13)
  refine sx_p (fun Z k => sh_iinc (v := 3) dc_Mod_init_230 rfl (by decide) (by decide) k) ?_
  refine sx_p (fun Z k => sh_goto_ (tgt := 210) dc_Mod_init_233 (by decide) k) ?_
  exact k9 h2 f2_0 f2_1 f2_2 w2
theorem sx_Mod_init_s3 {n : Nat} {h : sh_Hp} {a : Nat} {u1 : Nat} {u2 : Nat} {u3 : Nat} {u4 : Nat} {u5 : Nat} {u6 : Nat} {u7 : Nat} {u8 : Nat} {u9 : Nat} {u10 : Nat} {u12 : Nat} {u13 : Nat} {u14 : Nat} {u15 : Nat} {u16 : Nat} {u17 : Nat} {u18 : Nat} {u19 : Nat} {u20 : Nat} {u21 : Nat} {u22 : Nat} {u23 : Nat} {cs ss : Nat} {v : Option Value} {P : Nat → sh_Hp → Prop} (h_a : a < n) (f_a : h a = some (false, 9, [.int 0, .ref u1, .ref u2, .ref u3, .ref u4, .ref u5, .ref u6, .ref u7, .ref u8, .ref u9, .ref u10, .double FP.dconst0, .ref u12, .ref u13, .ref u14, .ref u15, .ref u16, .ref u17, .ref u18, .ref u19, .ref u20, .ref u21, .ref u22, .ref u23, .int 0, .int 0])) (h_u12 : u12 < n) (f_u12 : h u12 = some (true, 0, [.int (-1), .int (-1), .int (-1), .int 0, .int 0, .int 0, .int 0, .int 0])) (h_u13 : u13 < n) (f_u13 : h u13 = some (true, 0, [.int (-1), .int (-1), .int (-1), .int 0, .int 0, .int 0, .int 0, .int 0])) (n1 : a ≠ u12) (n2 : a ≠ u13) (n3 : u12 ≠ u13) (k9 : ∀ h1 : sh_Hp, h1 a = some (false, 9, [.int 0, .ref u1, .ref u2, .ref u3, .ref u4, .ref u5, .ref u6, .ref u7, .ref u8, .ref u9, .ref u10, .double FP.dconst0, .ref u12, .ref u13, .ref u14, .ref u15, .ref u16, .ref u17, .ref u18, .ref u19, .ref u20, .ref u21, .ref u22, .ref u23, .int 0, .int 0]) → h1 u12 = some (true, 0, [.int (-1), .int (-1), .int (-1), .int (-1), .int 0, .int 0, .int 0, .int 0]) → h1 u13 = some (true, 0, [.int (-1), .int (-1), .int (-1), .int (-1), .int 0, .int 0, .int 0, .int 0]) → (∀ q, q < n → q ≠ a → q ≠ u12 → q ≠ u13 → h1 q = h q) → sx_W md_Mod_init (210, [(1, .int 4), (0, .ref a)], []) (n) h1 cs ss v P) : sx_W md_Mod_init (210, [(1, .int 3), (0, .ref a)], []) n h cs ss v P := by
  have w0 : ∀ q, q < n → q ≠ a → q ≠ u12 → q ≠ u13 → h q = h q := fun _ _ _ _ _ => rfl
  refine sx_p (fun Z k => sh_iload_n dc_Mod_init_210 rfl rfl k) ?_
  refine sx_p (fun Z k => sh_bipush (v := 8) dc_Mod_init_211 (by decide) k) ?_
  refine sx_p (fun Z k => sh_icmp_ge (tgt := 236) dc_Mod_init_213 (by decide) (fun z => absurd z (by decide)) (fun _ => k)) ?_
  refine sx_p (fun Z k => sh_aload_n dc_Mod_init_216 rfl rfl k) ?_
  refine sx_p (fun Z k => sh_get (k := 12) dc_Mod_init_217 f_a rfl (by decide) fl_Mod_42 rfl k) ?_
  refine sx_p (fun Z k => sh_iload_n dc_Mod_init_220 rfl rfl k) ?_
  refine sx_p (fun Z k => sh_iconst (v := (-1)) dc_Mod_init_221 (by decide) k) ?_
  refine sx_o (q := u12) (o := (true, 0, [.int (-1), .int (-1), .int (-1), .int (-1), .int 0, .int 0, .int 0, .int 0])) (fun Z k => sh_iast (i := 3) dc_Mod_init_222 f_u12 rfl (by decide) rfl k) ?_
  intro h1 g1 e1
  have f1_0 : h1 a = some (false, 9, [.int 0, .ref u1, .ref u2, .ref u3, .ref u4, .ref u5, .ref u6, .ref u7, .ref u8, .ref u9, .ref u10, .double FP.dconst0, .ref u12, .ref u13, .ref u14, .ref u15, .ref u16, .ref u17, .ref u18, .ref u19, .ref u20, .ref u21, .ref u22, .ref u23, .int 0, .int 0]) := (e1 _ (by omega)).trans f_a
  have f1_2 : h1 u13 = some (true, 0, [.int (-1), .int (-1), .int (-1), .int 0, .int 0, .int 0, .int 0, .int 0]) := (e1 _ (by omega)).trans f_u13
  have f1_1 : h1 u12 = some (true, 0, [.int (-1), .int (-1), .int (-1), .int (-1), .int 0, .int 0, .int 0, .int 0]) := g1
  have w1 : ∀ q, q < n → q ≠ a → q ≠ u12 → q ≠ u13 → h1 q = h q := fun q hq na nu12 nu13 => (e1 q (by omega)).trans (w0 q hq na nu12 nu13)
  refine sx_p (fun Z k => sh_aload_n dc_Mod_init_223 rfl rfl k) ?_
  refine sx_p (fun Z k => sh_get (k := 13) dc_Mod_init_224 f1_0 rfl (by decide) fl_Mod_45 rfl k) ?_
  refine sx_p (fun Z k => sh_iload_n dc_Mod_init_227 rfl rfl k) ?_
  refine sx_p (fun Z k => sh_iconst (v := (-1)) dc_Mod_init_228 (by decide) k) ?_
  refine sx_o (q := u13) (o := (true, 0, [.int (-1), .int (-1), .int (-1), .int (-1), .int 0, .int 0, .int 0, .int 0])) (fun Z k => sh_iast (i := 3) dc_Mod_init_229 f1_2 rfl (by decide) rfl k) ?_
  intro h2 g2 e2
  have f2_0 : h2 a = some (false, 9, [.int 0, .ref u1, .ref u2, .ref u3, .ref u4, .ref u5, .ref u6, .ref u7, .ref u8, .ref u9, .ref u10, .double FP.dconst0, .ref u12, .ref u13, .ref u14, .ref u15, .ref u16, .ref u17, .ref u18, .ref u19, .ref u20, .ref u21, .ref u22, .ref u23, .int 0, .int 0]) := (e2 _ (by omega)).trans f1_0
  have f2_1 : h2 u12 = some (true, 0, [.int (-1), .int (-1), .int (-1), .int (-1), .int 0, .int 0, .int 0, .int 0]) := (e2 _ (by omega)).trans f1_1
  have f2_2 : h2 u13 = some (true, 0, [.int (-1), .int (-1), .int (-1), .int (-1), .int 0, .int 0, .int 0, .int 0]) := g2
  have w2 : ∀ q, q < n → q ≠ a → q ≠ u12 → q ≠ u13 → h2 q = h q := fun q hq na nu12 nu13 => (e2 q (by omega)).trans (w1 q hq na nu12 nu13)
  refine sx_p (fun Z k => sh_iinc (v := 4) dc_Mod_init_230 rfl (by decide) (by decide) k) ?_
  refine sx_p (fun Z k => sh_goto_ (tgt := 210) dc_Mod_init_233 (by decide) k) ?_
  exact k9 h2 f2_0 f2_1 f2_2 w2
theorem sx_Mod_init_s4 {n : Nat} {h : sh_Hp} {a : Nat} {u1 : Nat} {u2 : Nat} {u3 : Nat} {u4 : Nat} {u5 : Nat} {u6 : Nat} {u7 : Nat} {u8 : Nat} {u9 : Nat} {u10 : Nat} {u12 : Nat} {u13 : Nat} {u14 : Nat} {u15 : Nat} {u16 : Nat} {u17 : Nat} {u18 : Nat} {u19 : Nat} {u20 : Nat} {u21 : Nat} {u22 : Nat} {u23 : Nat} {cs ss : Nat} {v : Option Value} {P : Nat → sh_Hp → Prop} (h_a : a < n) (f_a : h a = some (false, 9, [.int 0, .ref u1, .ref u2, .ref u3, .ref u4, .ref u5, .ref u6, .ref u7, .ref u8, .ref u9, .ref u10, .double FP.dconst0, .ref u12, .ref u13, .ref u14, .ref u15, .ref u16, .ref u17, .ref u18, .ref u19, .ref u20, .ref u21, .ref u22, .ref u23, .int 0, .int 0])) (h_u12 : u12 < n) (f_u12 : h u12 = some (true, 0, [.int (-1), .int (-1), .int (-1), .int (-1), .int 0, .int 0, .int 0, .int 0])) (h_u13 : u13 < n) (f_u13 : h u13 = some (true, 0, [.int (-1), .int (-1), .int (-1), .int (-1), .int 0, .int 0, .int 0, .int 0])) (n1 : a ≠ u12) (n2 : a ≠ u13) (n3 : u12 ≠ u13) (k9 : ∀ h1 : sh_Hp, h1 a = some (false, 9, [.int 0, .ref u1, .ref u2, .ref u3, .ref u4, .ref u5, .ref u6, .ref u7, .ref u8, .ref u9, .ref u10, .double FP.dconst0, .ref u12, .ref u13, .ref u14, .ref u15, .ref u16, .ref u17, .ref u18, .ref u19, .ref u20, .ref u21, .ref u22, .ref u23, .int 0, .int 0]) → h1 u12 = some (true, 0, [.int (-1), .int (-1), .int (-1), .int (-1), .int (-1), .int 0, .int 0, .int 0]) → h1 u13 = some (true, 0, [.int (-1), .int (-1), .int (-1), .int (-1), .int (-1), .int 0, .int 0, .int 0]) → (∀ q, q < n → q ≠ a → q ≠ u12 → q ≠ u13 → h1 q = h q) → sx_W md_Mod_init (210, [(1, .int 5), (0, .ref a)], []) (n) h1 cs ss v P) : sx_W md_Mod_init (210, [(1, .int 4), (0, .ref a)], []) n h cs ss v P := by
  have w0 : ∀ q, q < n → q ≠ a → q ≠ u12 → q ≠ u13 → h q = h q := fun _ _ _ _ _ => rfl
  refine sx_p (fun Z k => sh_iload_n dc_Mod_init_210 rfl rfl k) ?_
  refine sx_p (fun Z k => sh_bipush (v := 8) dc_Mod_init_211 (by decide) k) ?_
  refine sx_p (fun Z k => sh_icmp_ge (tgt := 236) dc_Mod_init_213 (by decide) (fun z => absurd z (by decide)) (fun _ => k)) ?_
  refine sx_p (fun Z k => sh_aload_n dc_Mod_init_216 rfl rfl k) ?_
  refine sx_p (fun Z k => sh_get (k := 12) dc_Mod_init_217 f_a rfl (by decide) fl_Mod_42 rfl k) ?_
  refine sx_p (fun Z k => sh_iload_n dc_Mod_init_220 rfl rfl k) ?_
  refine sx_p (fun Z k => sh_iconst (v := (-1)) dc_Mod_init_221 (by decide) k) ?_
  refine sx_o (q := u12) (o := (true, 0, [.int (-1), .int (-1), .int (-1), .int (-1), .int (-1), .int 0, .int 0, .int 0])) (fun Z k => sh_iast (i := 4) dc_Mod_init_222 f_u12 rfl (by decide) rfl k) ?_
  intro h1 g1 e1
  have f1_0 : h1 a = some (false, 9, [.int 0, .ref u1, .ref u2, .ref u3, .ref u4, .ref u5, .ref u6, .ref u7, .ref u8, .ref u9, .ref u10, .double FP.dconst0, .ref u12, .ref u13, .ref u14, .ref u15, .ref u16, .ref u17, .ref u18, .ref u19, .ref u20, .ref u21, .ref u22, .ref u23, .int 0, .int 0]) := (e1 _ (by omega)).trans f_a
  have f1_2 : h1 u13 = some (true, 0, [.int (-1), .int (-1), .int (-1), .int (-1), .int 0, .int 0, .int 0, .int 0]) := (e1 _ (by omega)).trans f_u13
  have f1_1 : h1 u12 = some (true, 0, [.int (-1), .int (-1), .int (-1), .int (-1), .int (-1), .int 0, .int 0, .int 0]) := g1
  have w1 : ∀ q, q < n → q ≠ a → q ≠ u12 → q ≠ u13 → h1 q = h q := fun q hq na nu12 nu13 => (e1 q (by omega)).trans (w0 q hq na nu12 nu13)
  refine sx_p (fun Z k => sh_aload_n dc_Mod_init_223 rfl rfl k) ?_
  refine sx_p (fun Z k => sh_get (k := 13) dc_Mod_init_224 f1_0 rfl (by decide) fl_Mod_45 rfl k) ?_
  refine sx_p (fun Z k => sh_iload_n dc_Mod_init_227 rfl rfl k) ?_
  refine sx_p (fun Z k => sh_iconst (v := (-1)) dc_Mod_init_228 (by decide) k) ?_
  refine sx_o (q := u13) (o := (true, 0, [.int (-1), .int (-1), .int (-1), .int (-1), .int (-1), .int 0, .int 0, .int 0])) (fun Z k => sh_iast (i := 4) dc_Mod_init_229 f1_2 rfl (by decide) rfl k) ?_
  intro h2 g2 e2
  have f2_0 : h2 a = some (false, 9, [.int 0, .ref u1, .ref u2, .ref u3, .ref u4, .ref u5, .ref u6, .ref u7, .ref u8, .ref u9, .ref u10, .double FP.dconst0, .ref u12, .ref u13, .ref u14, .ref u15, .ref u16, .ref u17, .ref u18, .ref u19, .ref u20, .ref u21, .ref u22, .ref u23, .int 0, .int 0]) := (e2 _ (by omega)).trans f1_0
  have f2_1 : h2 u12 = some (true, 0, [.int (-1), .int (-1), .int (-1), .int (-1), .int (-1), .int 0, .int 0, .int 0]) := (e2 _ (by omega)).trans f1_1
  have f2_2 : h2 u13 = some (true, 0, [.int (-1), .int (-1), .int (-1), .int (-1), .int (-1), .int 0, .int 0, .int 0]) := g2
  have w2 : ∀ q, q < n → q ≠ a → q ≠ u12 → q ≠ u13 → h2 q = h q := fun q hq na nu12 nu13 => (e2 q (by omega)).trans (w1 q hq na nu12 nu13)
  refine sx_p (fun Z k => sh_iinc (v := 5) dc_Mod_init_230 rfl (by decide) (by decide) k) ?_
  refine sx_p (fun Z k => sh_goto_ (tgt := 210) dc_Mod_init_233 (by decide) k) ?_
  exact k9 h2 f2_0 f2_1 f2_2 w2
theorem sx_Mod_init_s5 {n : Nat} {h : sh_Hp} {a : Nat} {u1 : Nat} {u2 : Nat} {u3 : Nat} {u4 : Nat} {u5 : Nat} {u6 : Nat} {u7 : Nat} {u8 : Nat} {u9 : Nat} {u10 : Nat} {u12 : Nat} {u13 : Nat} {u14 : Nat} {u15 : Nat} {u16 : Nat} {u17 : Nat} {u18 : Nat} {u19 : Nat} {u20 : Nat} {u21 : Nat} {u22 : Nat} {u23 : Nat} {cs ss : Nat} {v : Option Value} {P : Nat → sh_Hp → Prop} (h_a : a < n) (f_a : h a = some (false, 9, [.int 0, .ref u1, .ref u2, .ref u3, .ref u4, .ref u5, .ref u6, .ref u7, .ref u8, .ref u9, .ref u10, .double FP.dconst0, .ref u12, .ref u13, .ref u14, .ref u15, .ref u16, .ref u17, .ref u18, .ref u19, .ref u20, .ref u21, .ref u22, .ref u23, .int 0, .int 0])) (h_u12 : u12 < n) (f_u12 : h u12 = some (true, 0, [.int (-1), .int (-1), .int (-1), .int (-1), .int (-1), .int 0, .int 0, .int 0])) (h_u13 : u13 < n) (f_u13 : h u13 = some (true, 0, [.int (-1), .int (-1), .int (-1), .int (-1), .int (-1), .int 0, .int 0, .int 0])) (n1 : a ≠ u12) (n2 : a ≠ u13) (n3 : u12 ≠ u13) (k9 : ∀ h1 : sh_Hp, h1 a = some (false, 9, [.int 0, .ref u1, .ref u2, .ref u3, .ref u4, .ref u5, .ref u6, .ref u7, .ref u8, .ref u9, .ref u10, .double FP.dconst0, .ref u12, .ref u13, .ref u14, .ref u15, .ref u16, .ref u17, .ref u18, .ref u19, .ref u20, .ref u21, .ref u22, .ref u23, .int 0, .int 0]) → h1 u12 = some (true, 0, [.int (-1), .int (-1), .int (-1), .int (-1), .int (-1), .int (-1), .int 0, .int 0]) → h1 u13 = some (true, 0, [.int (-1), .int (-1), .int (-1), .int (-1), .int (-1), .int (-1), .int 0, .int 0]) → (∀ q, q < n → q ≠ a → q ≠ u12 → q ≠ u13 → h1 q = h q) → sx_W md_Mod_init (210, [(1, .int 6), (0, .ref a)], []) (n) h1 cs ss v P) : sx_W md_Mod_init (210, [(1, .int 5), (0, .ref a)], []) n h cs ss v P := by
  have w0 : ∀ q, q < n → q ≠ a → q ≠ u12 → q ≠ u13 → h q = h q := fun _ _ _ _ _ => rfl
  refine sx_p (fun Z k => sh_iload_n dc_Mod_init_210 rfl rfl k) ?_
  refine sx_p (fun Z k => sh_bipush (v := 8) dc_Mod_init_211 (by decide) k) ?_
  refine sx_p (fun Z k => sh_icmp_ge (tgt := 236) dc_Mod_init_213 (by decide) (fun z => absurd z (by decide)) (fun _ => k)) ?_
  refine sx_p (fun Z k => sh_aload_n dc_Mod_init_216 rfl rfl k) ?_
  refine sx_p (fun Z k => sh_get (k := 12) dc_Mod_init_217 f_a rfl (by decide) fl_Mod_42 rfl k) ?_
  refine sx_p (fun Z k => sh_iload_n dc_Mod_init_220 rfl rfl k) ?_
  refine sx_p (fun Z k => sh_iconst (v := (-1)) dc_Mod_init_221 (by decide) k) ?_
  refine sx_o (q := u12) (o := (true, 0, [.int (-1), .int (-1), .int (-1), .int (-1), .int (-1), .int (-1), .int 0, .int 0])) (fun Z k => sh_iast (i := 5) dc_Mod_init_222 f_u12 rfl (by decide) rfl k) ?_
  intro h1 g1 e1
  have f1_0 : h1 a = some (false, 9, [.int 0, .ref u1, .ref u2, .ref u3, .ref u4, .ref u5, .ref u6, .ref u7, .ref u8, .ref u9, .ref u10, .double FP.dconst0, .ref u12, .ref u13, .ref u14, .ref u15, .ref u16, .ref u17, .ref u18, .ref u19, .ref u20, .ref u21, .ref u22, .ref u23, .int 0, .int 0]) := (e1 _ (by omega)).trans f_a
  have f1_2 : h1 u13 = some (true, 0, [.int (-1), .int (-1), .int (-1), .int (-1), .int (-1), .int 0, .int 0, .int 0]) := (e1 _ (by omega)).trans f_u13
  have f1_1 : h1 u12 = some (true, 0, [.int (-1), .int (-1), .int (-1), .int (-1), .int (-1), .int (-1), .int 0, .int 0]) := g1
  have w1 : ∀ q, q < n → q ≠ a → q ≠ u12 → q ≠ u13 → h1 q = h q := fun q hq na nu12 nu13 => (e1 q (by omega)).trans (w0 q hq na nu12 nu13)
  refine sx_p (fun Z k => sh_aload_n dc_Mod_init_223 rfl rfl k) ?_
  refine sx_p (fun Z k => sh_get (k := 13) dc_Mod_init_224 f1_0 rfl (by decide) fl_Mod_45 rfl k) ?_
  refine sx_p (fun Z k => sh_iload_n dc_Mod_init_227 rfl rfl k) ?_
  refine sx_p (fun Z k => sh_iconst (v := (-1)) dc_Mod_init_228 (by decide) k) ?_
  refine sx_o (q := u13) (o := (true, 0, [.int (-1), .int (-1), .int (-1), .int (-1), .int (-1), .int (-1), .int 0, .int 0])) (fun Z k => sh_iast (i := 5) dc_Mod_init_229 f1_2 rfl (by decide) rfl k) ?_
  intro h2 g2 e2
  have f2_0 : h2 a = some (false, 9, [.int 0, .ref u1, .ref u2, .ref u3, .ref u4, .ref u5, .ref u6, .ref u7, .ref u8, .ref u9, .ref u10, .double FP.dconst0, .ref u12, .ref u13, .ref u14, .ref u15, .ref u16, .ref u17, .ref u18, .ref u19, .ref u20, .ref u21, .ref u22, .ref u23, .int 0, .int 0]) := (e2 _ (by omega)).trans f1_0
  have f2_1 : h2 u12 = some (true, 0, [.int (-1), .int (-1), .int (-1), .int (-1), .int (-1), .int (-1), .int 0, .int 0]) := (e2 _ (by omega)).trans f1_1
  have f2_2 : h2 u13 = some (true, 0, [.int (-1), .int (-1), .int (-1), .int (-1), .int (-1), .int (-1), .int 0, .int 0]) := g2
  have w2 : ∀ q, q < n → q ≠ a → q ≠ u12 → q ≠ u13 → h2 q = h q := fun q hq na nu12 nu13 => (e2 q (by omega)).trans (w1 q hq na nu12 nu13)
  refine sx_p (fun Z k => sh_iinc (v := 6) dc_Mod_init_230 rfl (by decide) (by decide) k) ?_
  refine sx_p (fun Z k => sh_goto_ (tgt := 210) dc_Mod_init_233 (by decide) k) ?_
  exact k9 h2 f2_0 f2_1 f2_2 w2
theorem sx_Mod_init_s6 {n : Nat} {h : sh_Hp} {a : Nat} {u1 : Nat} {u2 : Nat} {u3 : Nat} {u4 : Nat} {u5 : Nat} {u6 : Nat} {u7 : Nat} {u8 : Nat} {u9 : Nat} {u10 : Nat} {u12 : Nat} {u13 : Nat} {u14 : Nat} {u15 : Nat} {u16 : Nat} {u17 : Nat} {u18 : Nat} {u19 : Nat} {u20 : Nat} {u21 : Nat} {u22 : Nat} {u23 : Nat} {cs ss : Nat} {v : Option Value} {P : Nat → sh_Hp → Prop} (h_a : a < n) (f_a : h a = some (false, 9, [.int 0, .ref u1, .ref u2, .ref u3, .ref u4, .ref u5, .ref u6, .ref u7, .ref u8, .ref u9, .ref u10, .double FP.dconst0, .ref u12, .ref u13, .ref u14, .ref u15, .ref u16, .ref u17, .ref u18, .ref u19, .ref u20, .ref u21, .ref u22, .ref u23, .int 0, .int 0])) (h_u12 : u12 < n) (f_u12 : h u12 = some (true, 0, [.int (-1), .int (-1), .int (-1), .int (-1), .int (-1), .int (-1), .int 0, .int 0])) (h_u13 : u13 < n) (f_u13 : h u13 = some (true, 0, [.int (-1), .int (-1), .int (-1), .int (-1), .int (-1), .int (-1), .int 0, .int 0])) (n1 : a ≠ u12) (n2 : a ≠ u13) (n3 : u12 ≠ u13) (k9 : ∀ h1 : sh_Hp, h1 a = some (false, 9, [.int 0, .ref u1, .ref u2, .ref u3, .ref u4, .ref u5, .ref u6, .ref u7, .ref u8, .ref u9, .ref u10, .double FP.dconst0, .ref u12, .ref u13, .ref u14, .ref u15, .ref u16, .ref u17, .ref u18, .ref u19, .ref u20, .ref u21, .ref u22, .ref u23, .int 0, .int 0]) → h1 u12 = some (true, 0, [.int (-1), .int (-1), .int (-1), .int (-1), .int (-1), .int (-1), .int (-1), .int 0]) → h1 u13 = some (true, 0, [.int (-1), .int (-1), .int (-1), .int (-1), .int (-1), .int (-1), .int (-1), .int 0]) → (∀ q, q < n → q ≠ a → q ≠ u12 → q ≠ u13 → h1 q = h q) → sx_W md_Mod_init (210, [(1, .int 7), (0, .ref a)], []) (n) h1 cs ss v P) : sx_W md_Mod_init (210, [(1, .int 6), (0, .ref a)], []) n h cs ss v P := by
  have w0 : ∀ q, q < n → q ≠ a → q ≠ u12 → q ≠ u13 → h q = h q := fun _ _ _ _ _ => rfl
  refine sx_p (fun Z k => sh_iload_n dc_Mod_init_210 rfl rfl k) ?_
  refine sx_p (fun Z k => sh_bipush (v := 8) dc_Mod_init_211 (by decide) k) ?_
  refine sx_p (fun Z k => sh_icmp_ge (tgt := 236) dc_Mod_init_213 (by decide) (fun z => absurd z (by decide)) (fun _ => k)) ?_
  refine sx_p (fun Z k => sh_aload_n dc_Mod_init_216 rfl rfl k) ?_
  refine sx_p (fun Z k => sh_get (k := 12) dc_Mod_init_217 f_a rfl (by decide) fl_Mod_42 rfl k) ?_
  refine sx_p (fun Z k => sh_iload_n dc_Mod_init_220 rfl rfl k) ?_
  refine sx_p (fun Z k => sh_iconst (v := (-1)) dc_Mod_init_221 (by decide) k) ?_
  refine sx_o (q := u12) (o := (true, 0, [.int (-1), .int (-1), .int (-1), .int (-1), .int (-1), .int (-1), .int (-1), .int 0])) (fun Z k => sh_iast (i := 6) dc_Mod_init_222 f_u12 rfl (by decide) rfl k) ?_
  intro h1 g1 e1
  have f1_0 : h1 a = some (false, 9, [.int 0, .ref u1, .ref u2, .ref u3, .ref u4, .ref u5, .ref u6, .ref u7, .ref u8, .ref u9, .ref u10, .double FP.dconst0, .ref u12, .ref u13, .ref u14, .ref u15, .ref u16, .ref u17, .ref u18, .ref u19, .ref u20, .ref u21, .ref u22, .ref u23, .int 0, .int 0]) := (e1 _ (by omega)).trans f_a
  have f1_2 : h1 u13 = some (true, 0, [.int (-1), .int (-1), .int (-1), .int (-1), .int (-1), .int (-1), .int 0, .int 0]) := (e1 _ (by omega)).trans f_u13
  have f1_1 : h1 u12 = some (true, 0, [.int (-1), .int (-1), .int (-1), .int (-1), .int (-1), .int (-1), .int (-1), .int 0]) := g1
  have w1 : ∀ q, q < n → q ≠ a → q ≠ u12 → q ≠ u13 → h1 q = h q := fun q hq na nu12 nu13 => (e1 q (by omega)).trans (w0 q hq na nu12 nu13)
  refine sx_p (fun Z k => sh_aload_n dc_Mod_init_223 rfl rfl k) ?_
  refine sx_p (fun Z k => sh_get (k := 13) dc_Mod_init_224 f1_0 rfl (by decide) fl_Mod_45 rfl k) ?_
  refine sx_p (fun Z k => sh_iload_n dc_Mod_init_227 rfl rfl k) ?_
  refine sx_p (fun Z k => sh_iconst (v := (-1)) dc_Mod_init_228 (by decide) k) ?_
  refine sx_o (q := u13) (o := (true, 0, [.int (-1), .int (-1), .int (-1), .int (-1), .int (-1), .int (-1), .int (-1), .int 0])) (fun Z k => sh_iast (i := 6) dc_Mod_init_229 f1_2 rfl (by decide) rfl k) ?_
  intro h2 g2 e2
  have f2_0 : h2 a = some (false, 9, [.int 0, .ref u1, .ref u2, .ref u3, .ref u4, .ref u5, .ref u6, .ref u7, .ref u8, .ref u9, .ref u10, .double FP.dconst0, .ref u12, .ref u13, .ref u14, .ref u15, .ref u16, .ref u17, .ref u18, .ref u19, .ref u20, .ref u21, .ref u22, .ref u23, .int 0, .int 0]) := (e2 _ (by omega)).trans f1_0
  have f2_1 : h2 u12 = some (true, 0, [.int (-1), .int (-1), .int (-1), .int (-1), .int (-1), .int (-1), .int (-1), .int 0]) := (e2 _ (by omega)).trans f1_1
  have f2_2 : h2 u13 = some (true, 0, [.int (-1), .int (-1), .int (-1), .int (-1), .int (-1), .int (-1), .int (-1), .int 0]) := g2
  have w2 : ∀ q, q < n → q ≠ a → q ≠ u12 → q ≠ u13 → h2 q = h q := fun q hq na nu12 nu13 => (e2 q (by omega)).trans (w1 q hq na nu12 nu13)
  refine sx_p (fun Z k => sh_iinc (v := 7) dc_Mod_init_230 rfl (by decide) (by decide) k) ?_
  refine sx_p (fun Z k => sh_goto_ (tgt := 210) dc_Mod_init_233 (by decide) k) ?_
  exact k9 h2 f2_0 f2_1 f2_2 w2
theorem sx_Mod_init_s7 {n : Nat} {h : sh_Hp} {a : Nat} {u1 : Nat} {u2 : Nat} {u3 : Nat} {u4 : Nat} {u5 : Nat} {u6 : Nat} {u7 : Nat} {u8 : Nat} {u9 : Nat} {u10 : Nat} {u12 : Nat} {u13 : Nat} {u14 : Nat} {u15 : Nat} {u16 : Nat} {u17 : Nat} {u18 : Nat} {u19 : Nat} {u20 : Nat} {u21 : Nat} {u22 : Nat} {u23 : Nat} {cs ss : Nat} {v : Option Value} {P : Nat → sh_Hp → Prop} (h_a : a < n) (f_a : h a = some (false, 9, [.int 0, .ref u1, .ref u2, .ref u3, .ref u4, .ref u5, .ref u6, .ref u7, .ref u8, .ref u9, .ref u10, .double FP.dconst0, .ref u12, .ref u13, .ref u14, .ref u15, .ref u16, .ref u17, .ref u18, .ref u19, .ref u20, .ref u21, .ref u22, .ref u23, .int 0, .int 0])) (h_u12 : u12 < n) (f_u12 : h u12 = some (true, 0, [.int (-1), .int (-1), .int (-1), .int (-1), .int (-1), .int (-1), .int (-1), .int 0])) (h_u13 : u13 < n) (f_u13 : h u13 = some (true, 0, [.int (-1), .int (-1), .int (-1), .int (-1), .int (-1), .int (-1), .int (-1), .int 0])) (n1 : a ≠ u12) (n2 : a ≠ u13) (n3 : u12 ≠ u13) (k9 : ∀ h1 : sh_Hp, h1 a = some (false, 9, [.int 0, .ref u1, .ref u2, .ref u3, .ref u4, .ref u5, .ref u6, .ref u7, .ref u8, .ref u9, .ref u10, .double FP.dconst0, .ref u12, .ref u13, .ref u14, .ref u15, .ref u16, .ref u17, .ref u18, .ref u19, .ref u20, .ref u21, .ref u22, .ref u23, .int 0, .int 0]) → h1 u12 = some (true, 0, [.int (-1), .int (-1), .int (-1), .int (-1), .int (-1), .int (-1), .int (-1), .int (-1)]) → h1 u13 = some (true, 0, [.int (-1), .int (-1), .int (-1), .int (-1), .int (-1), .int (-1), .int (-1), .int (-1)]) → (∀ q, q < n → q ≠ a → q ≠ u12 → q ≠ u13 → h1 q = h q) → sx_W md_Mod_init (210, [(1, .int 8), (0, .ref a)], []) (n) h1 cs ss v P) : sx_W md_Mod_init (210, [(1, .int 7), (0, .ref a)], []) n h cs ss v P := by
  have w0 : ∀ q, q < n → q ≠ a → q ≠ u12 → q ≠ u13 → h q = h q := fun _ _ _ _ _ => rfl
  refine sx_p (fun Z k => sh_iload_n dc_Mod_init_210 rfl rfl k) ?_
  refine sx_p (fun Z k => sh_bipush (v := 8) dc_Mod_init_211 (by decide) k) ?_
  refine sx_p (fun Z k => sh_icmp_ge (tgt := 236) dc_Mod_init_213 (by decide) (fun z => absurd z (by decide)) (fun _ => k)) ?_
  refine sx_p (fun Z k => sh_aload_n dc_Mod_init_216 rfl rfl k) ?_
  refine sx_p (fun Z k => sh_get (k := 12) dc_Mod_init_217 f_a rfl (by decide) fl_Mod_42 rfl k) ?_
  refine sx_p (fun Z k => sh_iload_n dc_Mod_init_220 rfl rfl k) ?_
  refine sx_p (fun Z k => sh_iconst (v := (-1)) dc_Mod_init_221 (by decide) k) ?_
  refine sx_o (q := u12) (o := (true, 0, [.int (-1), .int (-1), .int (-1), .int (-1), .int (-1), .int (-1), .int (-1), .int (-1)])) (fun Z k => sh_iast (i := 7) dc_Mod_init_222 f_u12 rfl (by decide) rfl k) ?_
  intro h1 g1 e1
  have f1_0 : h1 a = some (false, 9, [.int 0, .ref u1, .ref u2, .ref u3, .ref u4, .ref u5, .ref u6, .ref u7, .ref u8, .ref u9, .ref u10, .double FP.dconst0, .ref u12, .ref u13, .ref u14, .ref u15, .ref u16, .ref u17, .ref u18, .ref u19, .ref u20, .ref u21, .ref u22, .ref u23, .int 0, .int 0]) := (e1 _ (by omega)).trans f_a
  have f1_2 : h1 u13 = some (true, 0, [.int (-1), .int (-1), .int (-1), .int (-1), .int (-1), .int (-1), .int (-1), .int 0]) := (e1 _ (by omega)).trans f_u13
  have f1_1 : h1 u12 = some (true, 0, [.int (-1), .int (-1), .int (-1), .int (-1), .int (-1), .int (-1), .int (-1), .int (-1)]) := g1
  have w1 : ∀ q, q < n → q ≠ a → q ≠ u12 → q ≠ u13 → h1 q = h q := fun q hq na nu12 nu13 => (e1 q (by omega)).trans (w0 q hq na nu12 nu13)
  refine sx_p (fun Z k => sh_aload_n dc_Mod_init_223 rfl rfl k) ?_
  refine sx_p (fun Z k => sh_get (k := 13) dc_Mod_init_224 f1_0 rfl (by decide) fl_Mod_45 rfl k) ?_
  refine sx_p (fun Z k => sh_iload_n dc_Mod_init_227 rfl rfl k) ?_
  refine sx_p (fun Z k => sh_iconst (v := (-1)) dc_Mod_init_228 (by decide) k) ?_
  refine sx_o (q := u13) (o := (true, 0, [.int (-1), .int (-1), .int (-1), .int (-1), .int (-1), .int (-1), .int (-1), .int (-1)])) (fun Z k => sh_iast (i := 7) dc_Mod_init_229 f1_2 rfl (by decide) rfl k) ?_
  intro h2 g2 e2
  have f2_0 : h2 a = some (false, 9, [.int 0, .ref u1, .ref u2, .ref u3, .ref u4, .ref u5, .ref u6, .ref u7, .ref u8, .ref u9, .ref u10, .double FP.dconst0, .ref u12, .ref u13, .ref u14, .ref u15, .ref u16, .ref u17, .ref u18, .ref u19, .ref u20, .ref u21, .ref u22, .ref u23, .int 0, .int 0]) := (e2 _ (by omega)).trans f1_0
  have f2_1 : h2 u12 = some (true, 0, [.int (-1), .int (-1), .int (-1), .int (-1), .int (-1), .int (-1), .int (-1), .int (-1)]) := (e2 _ (by omega)).trans f1_1
  have f2_2 : h2 u13 = some (true, 0, [.int (-1), .int (-1), .int (-1), .int (-1), .int (-1), .int (-1), .int (-1), .int (-1)]) := g2
  have w2 : ∀ q, q < n → q ≠ a → q ≠ u12 → q ≠ u13 → h2 q = h q := fun q hq na nu12 nu13 => (e2 q (by omega)).trans (w1 q hq na nu12 nu13)
  refine sx_p (fun Z k => sh_iinc (v := 8) dc_Mod_init_230 rfl (by decide) (by decide) k) ?_
  refine sx_p (fun Z k => sh_goto_ (tgt := 210) dc_Mod_init_233 (by decide) k) ?_
  exact k9 h2 f2_0 f2_1 f2_2 w2
