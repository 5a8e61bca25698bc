theorem sx_q {d : sh_Md} {pc : Nat} {lv : List (Nat × Value)} {st : List Value} {n : Nat} {h : sh_Hp} {cs ss : Nat} {v : Option Value} {P : Nat → sh_Hp → Prop} {dy : sh_Md} {stk As : List Value} {v1 : Option Value} (hc : sh_Call d dy pc stk st (n, h) As) (hM : sh_M dy As (n, h) (.inl (v1, (n, h)))) (hr : sh_Rm d dy st cs ss) (k : sx_W d (pc + 3, lv, v1.toList ++ st) n h (cs + dy.2.2.2.2.1.cells) (ss + dy.2.2.2.2.1.slots) v P) : sx_W d (pc, lv, stk) n h cs ss v P := by
  obtain ⟨n', h', a, b⟩ := k
  exact ⟨n', h', a, sh_callR hc hM hr b⟩
theorem sx_Hall_greatestFor_k0 {n : Nat} {h : sh_Hp}    : sx_M md_Hall_greatestFor [.int 0] n h (some (.int 0)) (fun n' h' => n' = n ∧ ∀ q, q < n → h' q = h q) := by
  have w0 : ∀ q, q < n → h q = h q := fun _ _ => rfl
  refine sx_p (fun Z k => sh_iload_n dc_Hall_greatestFor_0 rfl rfl k) ?_
  refine sx_p (fun Z k => sh_tableOut (tgt := 41) dc_Hall_greatestFor_1 (by decide) (by decide) k) ?_
  refine sx_p (fun Z k => sh_iconst (v := 0) dc_Hall_greatestFor_41 (by decide) k) ?_
  exact sx_e (sh_ireturn dc_Hall_greatestFor_42 rfl rfl (by decide) (by decide)) ⟨rfl, w0⟩
theorem sx_Hall_greatestFor_k1 {n : Nat} {h : sh_Hp}    : sx_M md_Hall_greatestFor [.int 1] n h (some (.int 0)) (fun n' h' => n' = n ∧ ∀ q, q < n → h' q = h q) := by
  have w0 : ∀ q, q < n → h q = h q := fun _ _ => rfl
  refine sx_p (fun Z k => sh_iload_n dc_Hall_greatestFor_0 rfl rfl k) ?_
  refine sx_p (fun Z k => sh_tableOut (tgt := 41) dc_Hall_greatestFor_1 (by decide) (by decide) k) ?_
  refine sx_p (fun Z k => sh_iconst (v := 0) dc_Hall_greatestFor_41 (by decide) k) ?_
  exact sx_e (sh_ireturn dc_Hall_greatestFor_42 rfl rfl (by decide) (by decide)) ⟨rfl, w0⟩
theorem sx_Hall_greatestFor_k2 {n : Nat} {h : sh_Hp}    : sx_M md_Hall_greatestFor [.int 2] n h (some (.int 5)) (fun n' h' => n' = n ∧ ∀ q, q < n → h' q = h q) := by
  have w0 : ∀ q, q < n → h q = h q := fun _ _ => rfl
  refine sx_p (fun Z k => sh_iload_n dc_Hall_greatestFor_0 rfl rfl k) ?_
  refine sx_p (fun Z k => sh_tableIn (tgt := 36) dc_Hall_greatestFor_1 (by decide) (by decide) rfl (by decide) k) ?_
  refine sx_p (fun Z k => sh_iconst (v := 5) dc_Hall_greatestFor_36 (by decide) k) ?_
  exact sx_e (sh_ireturn dc_Hall_greatestFor_37 rfl rfl (by decide) (by decide)) ⟨rfl, w0⟩
theorem sx_Hall_greatestFor_k3 {n : Nat} {h : sh_Hp}    : sx_M md_Hall_greatestFor [.int 3] n h (some (.int 5)) (fun n' h' => n' = n ∧ ∀ q, q < n → h' q = h q) := by
  have w0 : ∀ q, q < n → h q = h q := fun _ _ => rfl
  refine sx_p (fun Z k => sh_iload_n dc_Hall_greatestFor_0 rfl rfl k) ?_
  refine sx_p (fun Z k => sh_tableIn (tgt := 36) dc_Hall_greatestFor_1 (by decide) (by decide) rfl (by decide) k) ?_
  refine sx_p (fun Z k => sh_iconst (v := 5) dc_Hall_greatestFor_36 (by decide) k) ?_
  exact sx_e (sh_ireturn dc_Hall_greatestFor_37 rfl rfl (by decide) (by decide)) ⟨rfl, w0⟩
theorem sx_Hall_greatestFor_k4 {n : Nat} {h : sh_Hp}    : sx_M md_Hall_greatestFor [.int 4] n h (some (.int 5)) (fun n' h' => n' = n ∧ ∀ q, q < n → h' q = h q) := by
  have w0 : ∀ q, q < n → h q = h q := fun _ _ => rfl
  refine sx_p (fun Z k => sh_iload_n dc_Hall_greatestFor_0 rfl rfl k) ?_
  refine sx_p (fun Z k => sh_tableIn (tgt := 36) dc_Hall_greatestFor_1 (by decide) (by decide) rfl (by decide) k) ?_
  refine sx_p (fun Z k => sh_iconst (v := 5) dc_Hall_greatestFor_36 (by decide) k) ?_
  exact sx_e (sh_ireturn dc_Hall_greatestFor_37 rfl rfl (by decide) (by decide)) ⟨rfl, w0⟩
theorem sx_Hall_greatestFor_k5 {n : Nat} {h : sh_Hp}    : sx_M md_Hall_greatestFor [.int 5] n h (some (.int 0)) (fun n' h' => n' = n ∧ ∀ q, q < n → h' q = h q) := by
  have w0 : ∀ q, q < n → h q = h q := fun _ _ => rfl
  refine sx_p (fun Z k => sh_iload_n dc_Hall_greatestFor_0 rfl rfl k) ?_
  refine sx_p (fun Z k => sh_tableIn (tgt := 41) dc_Hall_greatestFor_1 (by decide) (by decide) rfl (by decide) k) ?_
  refine sx_p (fun Z k => sh_iconst (v := 0) dc_Hall_greatestFor_41 (by decide) k) ?_
  exact sx_e (sh_ireturn dc_Hall_greatestFor_42 rfl rfl (by decide) (by decide)) ⟨rfl, w0⟩
theorem sx_Hall_greatestFor_k6 {n : Nat} {h : sh_Hp}    : sx_M md_Hall_greatestFor [.int 6] n h (some (.int 7)) (fun n' h' => n' = n ∧ ∀ q, q < n → h' q = h q) := by
  have w0 : ∀ q, q < n → h q = h q := fun _ _ => rfl
  refine sx_p (fun Z k => sh_iload_n dc_Hall_greatestFor_0 rfl rfl k) ?_
  refine sx_p (fun Z k => sh_tableIn (tgt := 38) dc_Hall_greatestFor_1 (by decide) (by decide) rfl (by decide) k) ?_
  refine sx_p (fun Z k => sh_bipush (v := 7) dc_Hall_greatestFor_38 (by decide) k) ?_
  exact sx_e (sh_ireturn dc_Hall_greatestFor_40 rfl rfl (by decide) (by decide)) ⟨rfl, w0⟩
theorem sx_Hall_syncAt {n : Nat} {h : sh_Hp} {a : Nat} {w : Nat} {sy : Nat} {o : Nat} {c : Int32} {t : UInt64} {vs : List Value} {x : Int32} {lk : Nat} {fl : List Value} (h_a : a < n) (f_a : h a = some (false, 0, [.ref w, .ref sy, .ref o, .int c, .double t])) (h_sy : sy < n) (f_sy : h sy = some (true, 5, vs)) (h_lk : lk < n) (f_lk : h lk = some (false, 4, fl)) (hne : a ≠ sy) (hx0 : ¬ x < 0) (hx7 : x ≤ 7) (hv : vs[x.toNatClampNeg]? = some (.ref lk)) : sx_M md_Hall_syncAt [.ref a, .int x] n h (some (va_rf (some lk))) (fun n' h' => n' = n ∧ h' a = some (false, 0, [.ref w, .ref sy, .ref o, .int c, .double t]) ∧ h' sy = some (true, 5, vs) ∧ h' lk = some (false, 4, fl) ∧ ∀ q, q < n → q ≠ a → q ≠ sy → q ≠ lk → h' q = h q) := by
  have w0 : ∀ q, q < n → q ≠ a → q ≠ sy → q ≠ lk → h q = h q := fun _ _ _ _ _ => rfl
  refine sx_p (fun Z k => sh_iload_n dc_Hall_syncAt_0 rfl rfl k) ?_
  refine sx_p (fun Z k => sh_iconst (v := 0) dc_Hall_syncAt_1 (by decide) k) ?_
  refine sx_p (fun Z k => sh_bipush (v := 7) dc_Hall_syncAt_2 (by decide) k) ?_
  refine sx_q (sh_stat (As := [.int x, .int 0, .int 7]) dc_Hall_syncAt_4 lm_Hall_checkNumber ln_Hall_39 wd_191 wd_49 rfl rfl (Nat.le_of_ble_eq_true rfl)) (pt_Hall_checkNumber_2 hx0 hx7) ⟨by decide, Nat.le_of_ble_eq_true rfl, by decide, by decide⟩ ?_
  refine sx_p (fun Z k => sh_aload_n dc_Hall_syncAt_7 rfl rfl k) ?_
  refine sx_p (fun Z k => sh_get (k := 1) dc_Hall_syncAt_8 f_a rfl (by decide) fl_Hall_20 rfl k) ?_
  refine sx_p (fun Z k => sh_iload_n dc_Hall_syncAt_11 rfl rfl k) ?_
  refine sx_p (fun Z k => sh_aald dc_Hall_syncAt_12 f_sy rfl hx0 hv k) ?_
  refine sx_p (fun Z k => sh_astore_n dc_Hall_syncAt_13 rfl (by decide) k) ?_
  refine sx_p (fun Z k => sh_aload_n dc_Hall_syncAt_14 rfl rfl k) ?_
  refine sx_p (fun Z k => sh_ifnonnull (tgt := 28) dc_Hall_syncAt_15 (by decide) k) ?_
  refine sx_p (fun Z k => sh_aload_n dc_Hall_syncAt_28 rfl rfl k) ?_
  exact sx_e (sh_areturn (v := some lk) dc_Hall_syncAt_29 rfl (by decide) (by decide)) ⟨rfl, f_a, f_sy, f_lk, w0⟩
theorem sx_Hall_lockAt {n : Nat} {h : sh_Hp} {a : Nat} {w : Nat} {sy : Nat} {o : Nat} {c : Int32} {t : UInt64} {vs : List Value} {x : Int32} {lk : Nat} {fl : List Value} (h_a : a < n) (f_a : h a = some (false, 0, [.ref w, .ref sy, .ref o, .int c, .double t])) (h_sy : sy < n) (f_sy : h sy = some (true, 5, vs)) (h_lk : lk < n) (f_lk : h lk = some (false, 4, fl)) (hne : a ≠ sy) (hx0 : ¬ x < 0) (hx7 : x ≤ 7) (hv : vs[x.toNatClampNeg]? = some (.ref lk)) : sx_M md_Hall_lockAt [.ref a, .int x] n h (some (va_rf (some lk))) (fun n' h' => n' = n ∧ h' a = some (false, 0, [.ref w, .ref sy, .ref o, .int c, .double t]) ∧ h' sy = some (true, 5, vs) ∧ h' lk = some (false, 4, fl) ∧ ∀ q, q < n → q ≠ a → q ≠ sy → q ≠ lk → h' q = h q) := by
  have w0 : ∀ q, q < n → q ≠ a → q ≠ sy → q ≠ lk → h q = h q := fun _ _ _ _ _ => rfl
  refine sx_p (fun Z k => sh_aload_n dc_Hall_lockAt_0 rfl rfl k) ?_
  refine sx_p (fun Z k => sh_iload_n dc_Hall_lockAt_1 rfl rfl k) ?_
  refine sx_c (sh_virt (As := [.int x]) dc_Hall_lockAt_2 lm_Hall_syncAt ln_Hall_73 wd_272 wd_2 rfl rfl (Nat.le_of_ble_eq_true rfl) f_a rfl) (sx_Hall_syncAt (a := a) (x := x) (n := n) (h := h) (by omega) f_a (by omega) f_sy (by omega) f_lk hne hx0 hx7 hv) ⟨by decide, Nat.le_of_ble_eq_true rfl, by decide, by decide⟩ ?_
  rintro n1 h1 ⟨en1, z1_0, z1_1, z1_2, e1⟩
  rw [en1]
  have f1_0 : h1 a = some (false, 0, [.ref w, .ref sy, .ref o, .int c, .double t]) := z1_0
  have f1_1 : h1 sy = some (true, 5, vs) := z1_1
  have f1_2 : h1 lk = some (false, 4, fl) := z1_2
  have w1 : ∀ q, q < n → q ≠ a → q ≠ sy → q ≠ lk → h1 q = h q := fun q hq na nsy nlk => (e1 q (by omega) (by omega) (by omega) (by omega)).trans (w0 q hq na nsy nlk)
  refine sx_p (fun Z k => sh_astore_n dc_Hall_lockAt_5 rfl (by decide) k) ?_
  refine sx_p (fun Z k => sh_aload_n dc_Hall_lockAt_6 rfl rfl k) ?_
  refine sx_p (fun Z k => sh_instY dc_Hall_lockAt_7 wd_290 f1_2 rfl (Or.inl rfl) k) ?_
  refine sx_p (fun Z k => sh_if_eq (tgt := 20) dc_Hall_lockAt_10 (by decide) (fun z => absurd z (by decide)) (fun _ => k)) ?_
  refine sx_p (fun Z k => sh_aload_n dc_Hall_lockAt_13 rfl rfl k) ?_
  refine sx_p (fun Z k => sh_castY dc_Hall_lockAt_14 wd_290 f1_2 rfl (Or.inl rfl) k) ?_
  refine sx_p (fun Z k => sh_astore_n dc_Hall_lockAt_17 rfl (by decide) k) ?_
  refine sx_p (fun Z k => sh_aload_n dc_Hall_lockAt_18 rfl rfl k) ?_
  exact sx_e (sh_areturn (v := some lk) dc_Hall_lockAt_19 rfl (by decide) (by decide)) ⟨rfl, f1_0, f1_1, f1_2, w1⟩
theorem sx_Hall_make_k0 {n : Nat} {h : sh_Hp} {a : Nat} {w : Nat} {sy : Nat} {o : Nat} {c : Int32} {t : UInt64} {vs : List Value} {x : Int32} {z : Int32} (h_a : a < n) (f_a : h a = some (false, 0, [.ref w, .ref sy, .ref o, .int c, .double t])) (h_sy : sy < n) (f_sy : h sy = some (true, 5, vs)) (hne : a ≠ sy) (hx0 : ¬ x < 0) (hx7 : x ≤ 7) (hv : vs[x.toNatClampNeg]? = some .null) (hz0 : ¬ z < 0) (hz1 : z ≤ 0) : sx_M md_Hall_make [.ref a, .int x, .int 0, .int z] n h (some (.int (c + 1))) (fun n' h' => n' = n + 1 + 1 + 1 ∧ h' a = some (false, 0, [.ref w, .ref sy, .ref o, .int (c + 1), .double t]) ∧ h' sy = some (true, 5, (vs.set x.toNatClampNeg (.ref n))) ∧ h' n = some (false, 4, [.int 0, .ref (n + 1), .double FP.dconst0, .int 0, .null, .int 0]) ∧ h' (n + 1) = some (false, 2, [.ref (n + 1 + 1), .int 0]) ∧ h' (n + 1 + 1) = some (true, 4, [.null, .null, .null, .null, .null, .null]) ∧ ∀ q, q < n → q ≠ a → q ≠ sy → h' q = h q) := by
  have w0 : ∀ q, q < n → q ≠ a → q ≠ sy → h q = h q := fun _ _ _ _ => rfl
  refine sx_p (fun Z k => sh_iload_n dc_Hall_make_0 rfl rfl k) ?_
  refine sx_p (fun Z k => sh_iconst (v := 0) dc_Hall_make_1 (by decide) k) ?_
  refine sx_p (fun Z k => sh_bipush (v := 7) dc_Hall_make_2 (by decide) k) ?_
  refine sx_q (sh_stat (As := [.int x, .int 0, .int 7]) dc_Hall_make_4 lm_Hall_checkNumber ln_Hall_39 wd_191 wd_49 rfl rfl (Nat.le_of_ble_eq_true rfl)) (pt_Hall_checkNumber_2 hx0 hx7) ⟨by decide, Nat.le_of_ble_eq_true rfl, by decide, by decide⟩ ?_
  refine sx_p (fun Z k => sh_iload_n dc_Hall_make_7 rfl rfl k) ?_
  refine sx_p (fun Z k => sh_iconst (v := 0) dc_Hall_make_8 (by decide) k) ?_
  refine sx_p (fun Z k => sh_bipush (v := 6) dc_Hall_make_9 (by decide) k) ?_
  refine sx_q (sh_stat (As := [.int 0, .int 0, .int 6]) dc_Hall_make_11 lm_Hall_checkNumber ln_Hall_39 wd_191 wd_49 rfl rfl (Nat.le_of_ble_eq_true rfl)) (pt_Hall_checkNumber_2 (by decide) (by decide)) ⟨by decide, Nat.le_of_ble_eq_true rfl, by decide, by decide⟩ ?_
  refine sx_p (fun Z k => sh_iload_n dc_Hall_make_14 rfl rfl k) ?_
  refine sx_p (fun Z k => sh_iconst (v := 0) dc_Hall_make_15 (by decide) k) ?_
  refine sx_p (fun Z k => sh_iload_n dc_Hall_make_16 rfl rfl k) ?_
  refine sx_c (sh_stat (As := [.int 0]) dc_Hall_make_17 lm_Hall_greatestFor ln_Hall_43 wd_264 wd_49 rfl rfl (Nat.le_of_ble_eq_true rfl)) (sx_Hall_greatestFor_k0 (n := n) (h := h)) ⟨by decide, Nat.le_of_ble_eq_true rfl, by decide, by decide⟩ ?_
  rintro n1 h1 ⟨en1, e1⟩
  rw [en1]
  have f1_0 : h1 a = some (false, 0, [.ref w, .ref sy, .ref o, .int c, .double t]) := (e1 _ (by omega) ).trans f_a
  have f1_1 : h1 sy = some (true, 5, vs) := (e1 _ (by omega) ).trans f_sy
  have w1 : ∀ q, q < n → q ≠ a → q ≠ sy → h1 q = h q := fun q hq na nsy => (e1 q (by omega) ).trans (w0 q hq na nsy)
  refine sx_q (sh_stat (As := [.int z, .int 0, .int 0]) dc_Hall_make_20 lm_Hall_checkNumber ln_Hall_39 wd_191 wd_49 rfl rfl (Nat.le_of_ble_eq_true rfl)) (pt_Hall_checkNumber_2 hz0 hz1) ⟨by decide, Nat.le_of_ble_eq_true rfl, by decide, by decide⟩ ?_
  refine sx_p (fun Z k => sh_iload_n dc_Hall_make_23 rfl rfl k) ?_
  refine sx_p (fun Z k => sh_bipush (v := 6) dc_Hall_make_24 (by decide) k) ?_
  refine sx_p (fun Z k => sh_icmp_ne (tgt := 37) dc_Hall_make_26 (by decide) (fun _ => k) (fun z => absurd z (by decide))) ?_
  refine sx_p (fun Z k => sh_anull dc_Hall_make_37 k) ?_
  refine sx_p (fun Z k => sh_astoreN dc_Hall_make_38 (by decide) k) ?_
  refine sx_p (fun Z k => sh_aload_n dc_Hall_make_40 rfl rfl k) ?_
  refine sx_p (fun Z k => sh_get (k := 1) dc_Hall_make_41 f1_0 rfl (by decide) fl_Hall_20 rfl k) ?_
  refine sx_p (fun Z k => sh_iload_n dc_Hall_make_44 rfl rfl k) ?_
  refine sx_p (fun Z k => sh_aald dc_Hall_make_45 f1_1 rfl hx0 hv k) ?_
  refine sx_p (fun Z k => sh_ifnullN (tgt := 59) dc_Hall_make_46 (by decide) k) ?_
  refine sx_p (fun Z k => sh_aload_n dc_Hall_make_59 rfl rfl k) ?_
  refine sx_p (fun Z k => sh_get (k := 1) dc_Hall_make_60 f1_0 rfl (by decide) fl_Hall_20 rfl k) ?_
  refine sx_p (fun Z k => sh_iload_n dc_Hall_make_63 rfl rfl k) ?_
  refine sx_p (fun Z k => sh_iload_n dc_Hall_make_64 rfl rfl k) ?_
  refine sx_p (fun Z k => sh_iload_n dc_Hall_make_65 rfl rfl k) ?_
  refine sx_p (fun Z k => sh_aloadq (x := none) dc_Hall_make_66 rfl k) ?_
  refine sx_c (sh_stat (As := [.int 0, .int z, .null]) dc_Hall_make_68 lm_Hall_newSync ln_Hall_58 wd_309 wd_49 rfl rfl (Nat.le_of_ble_eq_true rfl)) (sx_Hall_newSync_k0 (x := z) (n := n) (h := h1)) ⟨by decide, Nat.le_of_ble_eq_true rfl, by decide, by decide⟩ ?_
  rintro n2 h2 ⟨en2, z2_0, z2_1, z2_2, e2⟩
  rw [en2]
  have f2_0 : h2 a = some (false, 0, [.ref w, .ref sy, .ref o, .int c, .double t]) := (e2 _ (by omega) ).trans f1_0
  have f2_1 : h2 sy = some (true, 5, vs) := (e2 _ (by omega) ).trans f1_1
  have f2_2 : h2 n = some (false, 4, [.int 0, .ref (n + 1), .double FP.dconst0, .int 0, .null, .int 0]) := z2_0
  have f2_3 : h2 (n + 1) = some (false, 2, [.ref (n + 1 + 1), .int 0]) := z2_1
  have f2_4 : h2 (n + 1 + 1) = some (true, 4, [.null, .null, .null, .null, .null, .null]) := z2_2
  have w2 : ∀ q, q < n → q ≠ a → q ≠ sy → h2 q = h q := fun q hq na nsy => (e2 q (by omega) ).trans (w1 q hq na nsy)
  refine sx_o (q := sy) (o := (true, 5, (vs.set x.toNatClampNeg (.ref n)))) (fun Z k => sh_aast dc_Hall_make_71 f2_1 rfl hx0 hv f2_2 rfl (Or.inr wd_1095) k) ?_
  intro h3 g3 e3
  have f3_0 : h3 a = some (false, 0, [.ref w, .ref sy, .ref o, .int c, .double t]) := (e3 _ (by omega)).trans f2_0
  have f3_2 : h3 n = some (false, 4, [.int 0, .ref (n + 1), .double FP.dconst0, .int 0, .null, .int 0]) := (e3 _ (by omega)).trans f2_2
  have f3_3 : h3 (n + 1) = some (false, 2, [.ref (n + 1 + 1), .int 0]) := (e3 _ (by omega)).trans f2_3
  have f3_4 : h3 (n + 1 + 1) = some (true, 4, [.null, .null, .null, .null, .null, .null]) := (e3 _ (by omega)).trans f2_4
  have f3_1 : h3 sy = some (true, 5, (vs.set x.toNatClampNeg (.ref n))) := g3
  have w3 : ∀ q, q < n → q ≠ a → q ≠ sy → h3 q = h q := fun q hq na nsy => (e3 q (by omega)).trans (w2 q hq na nsy)
  refine sx_p (fun Z k => sh_aload_n dc_Hall_make_72 rfl rfl k) ?_
  refine sx_p (fun Z k => sh_dup dc_Hall_make_73 rfl k) ?_
  refine sx_p (fun Z k => sh_get (k := 3) dc_Hall_make_74 f3_0 rfl (by decide) fl_Hall_31 rfl k) ?_
  refine sx_p (fun Z k => sh_iconst (v := 1) dc_Hall_make_77 (by decide) k) ?_
  refine sx_p (fun Z k => sh_iadd dc_Hall_make_78 k) ?_
  refine sx_o (q := a) (o := (false, 0, [.ref w, .ref sy, .ref o, .int (c + 1), .double t])) (fun Z k => sh_put (k := 3) dc_Hall_make_79 f3_0 rfl (by decide) fl_Hall_31 rfl pd_I rfl rfl k) ?_
  intro h4 g4 e4
  have f4_1 : h4 sy = some (true, 5, (vs.set x.toNatClampNeg (.ref n))) := (e4 _ (by omega)).trans f3_1
  have f4_2 : h4 n = some (false, 4, [.int 0, .ref (n + 1), .double FP.dconst0, .int 0, .null, .int 0]) := (e4 _ (by omega)).trans f3_2
  have f4_3 : h4 (n + 1) = some (false, 2, [.ref (n + 1 + 1), .int 0]) := (e4 _ (by omega)).trans f3_3
  have f4_4 : h4 (n + 1 + 1) = some (true, 4, [.null, .null, .null, .null, .null, .null]) := (e4 _ (by omega)).trans f3_4
  have f4_0 : h4 a = some (false, 0, [.ref w, .ref sy, .ref o, .int (c + 1), .double t]) := g4
  have w4 : ∀ q, q < n → q ≠ a → q ≠ sy → h4 q = h q := fun q hq na nsy => (e4 q (by omega)).trans (w3 q hq na nsy)
  refine sx_p (fun Z k => sh_aload_n dc_Hall_make_82 rfl rfl k) ?_
  refine sx_p (fun Z k => sh_get (k := 3) dc_Hall_make_83 f4_0 rfl (by decide) fl_Hall_31 rfl k) ?_
  exact sx_e (sh_ireturn dc_Hall_make_86 rfl rfl (by decide) (by decide)) ⟨rfl, f4_0, f4_1, f4_2, f4_3, f4_4, w4⟩
theorem sx_Hall_make_k1 {n : Nat} {h : sh_Hp} {a : Nat} {w : Nat} {sy : Nat} {o : Nat} {c : Int32} {t : UInt64} {vs : List Value} {x : Int32} {z : Int32} (h_a : a < n) (f_a : h a = some (false, 0, [.ref w, .ref sy, .ref o, .int c, .double t])) (h_sy : sy < n) (f_sy : h sy = some (true, 5, vs)) (hne : a ≠ sy) (hx0 : ¬ x < 0) (hx7 : x ≤ 7) (hv : vs[x.toNatClampNeg]? = some .null) (hz0 : ¬ z < 0) (hz1 : z ≤ 0) : sx_M md_Hall_make [.ref a, .int x, .int 1, .int z] n h (some (.int (c + 1))) (fun n' h' => n' = n + 1 + 1 + 1 ∧ h' a = some (false, 0, [.ref w, .ref sy, .ref o, .int (c + 1), .double t]) ∧ h' sy = some (true, 5, (vs.set x.toNatClampNeg (.ref n))) ∧ h' n = some (false, 4, [.int 1, .ref (n + 1), .double FP.dconst0, .int 0, .null, .int 0]) ∧ h' (n + 1) = some (false, 2, [.ref (n + 1 + 1), .int 0]) ∧ h' (n + 1 + 1) = some (true, 4, [.null, .null, .null, .null, .null, .null]) ∧ ∀ q, q < n → q ≠ a → q ≠ sy → h' q = h q) := by
  have w0 : ∀ q, q < n → q ≠ a → q ≠ sy → h q = h q := fun _ _ _ _ => rfl
  refine sx_p (fun Z k => sh_iload_n dc_Hall_make_0 rfl rfl k) ?_
  refine sx_p (fun Z k => sh_iconst (v := 0) dc_Hall_make_1 (by decide) k) ?_
  refine sx_p (fun Z k => sh_bipush (v := 7) dc_Hall_make_2 (by decide) k) ?_
  refine sx_q (sh_stat (As := [.int x, .int 0, .int 7]) dc_Hall_make_4 lm_Hall_checkNumber ln_Hall_39 wd_191 wd_49 rfl rfl (Nat.le_of_ble_eq_true rfl)) (pt_Hall_checkNumber_2 hx0 hx7) ⟨by decide, Nat.le_of_ble_eq_true rfl, by decide, by decide⟩ ?_
  refine sx_p (fun Z k => sh_iload_n dc_Hall_make_7 rfl rfl k) ?_
  refine sx_p (fun Z k => sh_iconst (v := 0) dc_Hall_make_8 (by decide) k) ?_
  refine sx_p (fun Z k => sh_bipush (v := 6) dc_Hall_make_9 (by decide) k) ?_
  refine sx_q (sh_stat (As := [.int 1, .int 0, .int 6]) dc_Hall_make_11 lm_Hall_checkNumber ln_Hall_39 wd_191 wd_49 rfl rfl (Nat.le_of_ble_eq_true rfl)) (pt_Hall_checkNumber_2 (by decide) (by decide)) ⟨by decide, Nat.le_of_ble_eq_true rfl, by decide, by decide⟩ ?_
  refine sx_p (fun Z k => sh_iload_n dc_Hall_make_14 rfl rfl k) ?_
  refine sx_p (fun Z k => sh_iconst (v := 0) dc_Hall_make_15 (by decide) k) ?_
  refine sx_p (fun Z k => sh_iload_n dc_Hall_make_16 rfl rfl k) ?_
  refine sx_c (sh_stat (As := [.int 1]) dc_Hall_make_17 lm_Hall_greatestFor ln_Hall_43 wd_264 wd_49 rfl rfl (Nat.le_of_ble_eq_true rfl)) (sx_Hall_greatestFor_k1 (n := n) (h := h)) ⟨by decide, Nat.le_of_ble_eq_true rfl, by decide, by decide⟩ ?_
  rintro n1 h1 ⟨en1, e1⟩
  rw [en1]
  have f1_0 : h1 a = some (false, 0, [.ref w, .ref sy, .ref o, .int c, .double t]) := (e1 _ (by omega) ).trans f_a
  have f1_1 : h1 sy = some (true, 5, vs) := (e1 _ (by omega) ).trans f_sy
  have w1 : ∀ q, q < n → q ≠ a → q ≠ sy → h1 q = h q := fun q hq na nsy => (e1 q (by omega) ).trans (w0 q hq na nsy)
  refine sx_q (sh_stat (As := [.int z, .int 0, .int 0]) dc_Hall_make_20 lm_Hall_checkNumber ln_Hall_39 wd_191 wd_49 rfl rfl (Nat.le_of_ble_eq_true rfl)) (pt_Hall_checkNumber_2 hz0 hz1) ⟨by decide, Nat.le_of_ble_eq_true rfl, by decide, by decide⟩ ?_
  refine sx_p (fun Z k => sh_iload_n dc_Hall_make_23 rfl rfl k) ?_
  refine sx_p (fun Z k => sh_bipush (v := 6) dc_Hall_make_24 (by decide) k) ?_
  refine sx_p (fun Z k => sh_icmp_ne (tgt := 37) dc_Hall_make_26 (by decide) (fun _ => k) (fun z => absurd z (by decide))) ?_
  refine sx_p (fun Z k => sh_anull dc_Hall_make_37 k) ?_
  refine sx_p (fun Z k => sh_astoreN dc_Hall_make_38 (by decide) k) ?_
  refine sx_p (fun Z k => sh_aload_n dc_Hall_make_40 rfl rfl k) ?_
  refine sx_p (fun Z k => sh_get (k := 1) dc_Hall_make_41 f1_0 rfl (by decide) fl_Hall_20 rfl k) ?_
  refine sx_p (fun Z k => sh_iload_n dc_Hall_make_44 rfl rfl k) ?_
  refine sx_p (fun Z k => sh_aald dc_Hall_make_45 f1_1 rfl hx0 hv k) ?_
  refine sx_p (fun Z k => sh_ifnullN (tgt := 59) dc_Hall_make_46 (by decide) k) ?_
  refine sx_p (fun Z k => sh_aload_n dc_Hall_make_59 rfl rfl k) ?_
  refine sx_p (fun Z k => sh_get (k := 1) dc_Hall_make_60 f1_0 rfl (by decide) fl_Hall_20 rfl k) ?_
  refine sx_p (fun Z k => sh_iload_n dc_Hall_make_63 rfl rfl k) ?_
  refine sx_p (fun Z k => sh_iload_n dc_Hall_make_64 rfl rfl k) ?_
  refine sx_p (fun Z k => sh_iload_n dc_Hall_make_65 rfl rfl k) ?_
  refine sx_p (fun Z k => sh_aloadq (x := none) dc_Hall_make_66 rfl k) ?_
  refine sx_c (sh_stat (As := [.int 1, .int z, .null]) dc_Hall_make_68 lm_Hall_newSync ln_Hall_58 wd_309 wd_49 rfl rfl (Nat.le_of_ble_eq_true rfl)) (sx_Hall_newSync_k1 (x := z) (n := n) (h := h1)) ⟨by decide, Nat.le_of_ble_eq_true rfl, by decide, by decide⟩ ?_
  rintro n2 h2 ⟨en2, z2_0, z2_1, z2_2, e2⟩
  rw [en2]
  have f2_0 : h2 a = some (false, 0, [.ref w, .ref sy, .ref o, .int c, .double t]) := (e2 _ (by omega) ).trans f1_0
  have f2_1 : h2 sy = some (true, 5, vs) := (e2 _ (by omega) ).trans f1_1
  have f2_2 : h2 n = some (false, 4, [.int 1, .ref (n + 1), .double FP.dconst0, .int 0, .null, .int 0]) := z2_0
  have f2_3 : h2 (n + 1) = some (false, 2, [.ref (n + 1 + 1), .int 0]) := z2_1
  have f2_4 : h2 (n + 1 + 1) = some (true, 4, [.null, .null, .null, .null, .null, .null]) := z2_2
  have w2 : ∀ q, q < n → q ≠ a → q ≠ sy → h2 q = h q := fun q hq na nsy => (e2 q (by omega) ).trans (w1 q hq na nsy)
  refine sx_o (q := sy) (o := (true, 5, (vs.set x.toNatClampNeg (.ref n)))) (fun Z k => sh_aast dc_Hall_make_71 f2_1 rfl hx0 hv f2_2 rfl (Or.inr wd_1095) k) ?_
  intro h3 g3 e3
  have f3_0 : h3 a = some (false, 0, [.ref w, .ref sy, .ref o, .int c, .double t]) := (e3 _ (by omega)).trans f2_0
  have f3_2 : h3 n = some (false, 4, [.int 1, .ref (n + 1), .double FP.dconst0, .int 0, .null, .int 0]) := (e3 _ (by omega)).trans f2_2
  have f3_3 : h3 (n + 1) = some (false, 2, [.ref (n + 1 + 1), .int 0]) := (e3 _ (by omega)).trans f2_3
  have f3_4 : h3 (n + 1 + 1) = some (true, 4, [.null, .null, .null, .null, .null, .null]) := (e3 _ (by omega)).trans f2_4
  have f3_1 : h3 sy = some (true, 5, (vs.set x.toNatClampNeg (.ref n))) := g3
  have w3 : ∀ q, q < n → q ≠ a → q ≠ sy → h3 q = h q := fun q hq na nsy => (e3 q (by omega)).trans (w2 q hq na nsy)
  refine sx_p (fun Z k => sh_aload_n dc_Hall_make_72 rfl rfl k) ?_
  refine sx_p (fun Z k => sh_dup dc_Hall_make_73 rfl k) ?_
  refine sx_p (fun Z k => sh_get (k := 3) dc_Hall_make_74 f3_0 rfl (by decide) fl_Hall_31 rfl k) ?_
  refine sx_p (fun Z k => sh_iconst (v := 1) dc_Hall_make_77 (by decide) k) ?_
  refine sx_p (fun Z k => sh_iadd dc_Hall_make_78 k) ?_
  refine sx_o (q := a) (o := (false, 0, [.ref w, .ref sy, .ref o, .int (c + 1), .double t])) (fun Z k => sh_put (k := 3) dc_Hall_make_79 f3_0 rfl (by decide) fl_Hall_31 rfl pd_I rfl rfl k) ?_
  intro h4 g4 e4
  have f4_1 : h4 sy = some (true, 5, (vs.set x.toNatClampNeg (.ref n))) := (e4 _ (by omega)).trans f3_1
  have f4_2 : h4 n = some (false, 4, [.int 1, .ref (n + 1), .double FP.dconst0, .int 0, .null, .int 0]) := (e4 _ (by omega)).trans f3_2
  have f4_3 : h4 (n + 1) = some (false, 2, [.ref (n + 1 + 1), .int 0]) := (e4 _ (by omega)).trans f3_3
  have f4_4 : h4 (n + 1 + 1) = some (true, 4, [.null, .null, .null, .null, .null, .null]) := (e4 _ (by omega)).trans f3_4
  have f4_0 : h4 a = some (false, 0, [.ref w, .ref sy, .ref o, .int (c + 1), .double t]) := g4
  have w4 : ∀ q, q < n → q ≠ a → q ≠ sy → h4 q = h q := fun q hq na nsy => (e4 q (by omega)).trans (w3 q hq na nsy)
  refine sx_p (fun Z k => sh_aload_n dc_Hall_make_82 rfl rfl k) ?_
  refine sx_p (fun Z k => sh_get (k := 3) dc_Hall_make_83 f4_0 rfl (by decide) fl_Hall_31 rfl k) ?_
  exact sx_e (sh_ireturn dc_Hall_make_86 rfl rfl (by decide) (by decide)) ⟨rfl, f4_0, f4_1, f4_2, f4_3, f4_4, w4⟩
theorem sx_Hall_make_k2 {n : Nat} {h : sh_Hp} {a : Nat} {w : Nat} {sy : Nat} {o : Nat} {c : Int32} {t : UInt64} {vs : List Value} {x : Int32} {z : Int32} (h_a : a < n) (f_a : h a = some (false, 0, [.ref w, .ref sy, .ref o, .int c, .double t])) (h_sy : sy < n) (f_sy : h sy = some (true, 5, vs)) (hne : a ≠ sy) (hx0 : ¬ x < 0) (hx7 : x ≤ 7) (hv : vs[x.toNatClampNeg]? = some .null) (hz0 : ¬ z < 0) (hz1 : z ≤ 5) : sx_M md_Hall_make [.ref a, .int x, .int 2, .int z] n h (some (.int (c + 1))) (fun n' h' => n' = n + 1 + 1 + 1 ∧ h' a = some (false, 0, [.ref w, .ref sy, .ref o, .int (c + 1), .double t]) ∧ h' sy = some (true, 5, (vs.set x.toNatClampNeg (.ref n))) ∧ h' n = some (false, 5, [.int 2, .ref (n + 1), .double FP.dconst0, .int 0, .int z]) ∧ h' (n + 1) = some (false, 2, [.ref (n + 1 + 1), .int 0]) ∧ h' (n + 1 + 1) = some (true, 4, [.null, .null, .null, .null, .null, .null]) ∧ ∀ q, q < n → q ≠ a → q ≠ sy → h' q = h q) := by
  have w0 : ∀ q, q < n → q ≠ a → q ≠ sy → h q = h q := fun _ _ _ _ => rfl
  refine sx_p (fun Z k => sh_iload_n dc_Hall_make_0 rfl rfl k) ?_
  refine sx_p (fun Z k => sh_iconst (v := 0) dc_Hall_make_1 (by decide) k) ?_
  refine sx_p (fun Z k => sh_bipush (v := 7) dc_Hall_make_2 (by decide) k) ?_
  refine sx_q (sh_stat (As := [.int x, .int 0, .int 7]) dc_Hall_make_4 lm_Hall_checkNumber ln_Hall_39 wd_191 wd_49 rfl rfl (Nat.le_of_ble_eq_true rfl)) (pt_Hall_checkNumber_2 hx0 hx7) ⟨by decide, Nat.le_of_ble_eq_true rfl, by decide, by decide⟩ ?_
  refine sx_p (fun Z k => sh_iload_n dc_Hall_make_7 rfl rfl k) ?_
  refine sx_p (fun Z k => sh_iconst (v := 0) dc_Hall_make_8 (by decide) k) ?_
  refine sx_p (fun Z k => sh_bipush (v := 6) dc_Hall_make_9 (by decide) k) ?_
  refine sx_q (sh_stat (As := [.int 2, .int 0, .int 6]) dc_Hall_make_11 lm_Hall_checkNumber ln_Hall_39 wd_191 wd_49 rfl rfl (Nat.le_of_ble_eq_true rfl)) (pt_Hall_checkNumber_2 (by decide) (by decide)) ⟨by decide, Nat.le_of_ble_eq_true rfl, by decide, by decide⟩ ?_
  refine sx_p (fun Z k => sh_iload_n dc_Hall_make_14 rfl rfl k) ?_
  refine sx_p (fun Z k => sh_iconst (v := 0) dc_Hall_make_15 (by decide) k) ?_
  refine sx_p (fun Z k => sh_iload_n dc_Hall_make_16 rfl rfl k) ?_
  refine sx_c (sh_stat (As := [.int 2]) dc_Hall_make_17 lm_Hall_greatestFor ln_Hall_43 wd_264 wd_49 rfl rfl (Nat.le_of_ble_eq_true rfl)) (sx_Hall_greatestFor_k2 (n := n) (h := h)) ⟨by decide, Nat.le_of_ble_eq_true rfl, by decide, by decide⟩ ?_
  rintro n1 h1 ⟨en1, e1⟩
  rw [en1]
  have f1_0 : h1 a = some (false, 0, [.ref w, .ref sy, .ref o, .int c, .double t]) := (e1 _ (by omega) ).trans f_a
  have f1_1 : h1 sy = some (true, 5, vs) := (e1 _ (by omega) ).trans f_sy
  have w1 : ∀ q, q < n → q ≠ a → q ≠ sy → h1 q = h q := fun q hq na nsy => (e1 q (by omega) ).trans (w0 q hq na nsy)
  refine sx_q (sh_stat (As := [.int z, .int 0, .int 5]) dc_Hall_make_20 lm_Hall_checkNumber ln_Hall_39 wd_191 wd_49 rfl rfl (Nat.le_of_ble_eq_true rfl)) (pt_Hall_checkNumber_2 hz0 hz1) ⟨by decide, Nat.le_of_ble_eq_true rfl, by decide, by decide⟩ ?_
  refine sx_p (fun Z k => sh_iload_n dc_Hall_make_23 rfl rfl k) ?_
  refine sx_p (fun Z k => sh_bipush (v := 6) dc_Hall_make_24 (by decide) k) ?_
  refine sx_p (fun Z k => sh_icmp_ne (tgt := 37) dc_Hall_make_26 (by decide) (fun _ => k) (fun z => absurd z (by decide))) ?_
  refine sx_p (fun Z k => sh_anull dc_Hall_make_37 k) ?_
  refine sx_p (fun Z k => sh_astoreN dc_Hall_make_38 (by decide) k) ?_
  refine sx_p (fun Z k => sh_aload_n dc_Hall_make_40 rfl rfl k) ?_
  refine sx_p (fun Z k => sh_get (k := 1) dc_Hall_make_41 f1_0 rfl (by decide) fl_Hall_20 rfl k) ?_
  refine sx_p (fun Z k => sh_iload_n dc_Hall_make_44 rfl rfl k) ?_
  refine sx_p (fun Z k => sh_aald dc_Hall_make_45 f1_1 rfl hx0 hv k) ?_
  refine sx_p (fun Z k => sh_ifnullN (tgt := 59) dc_Hall_make_46 (by decide) k) ?_
  refine sx_p (fun Z k => sh_aload_n dc_Hall_make_59 rfl rfl k) ?_
  refine sx_p (fun Z k => sh_get (k := 1) dc_Hall_make_60 f1_0 rfl (by decide) fl_Hall_20 rfl k) ?_
  refine sx_p (fun Z k => sh_iload_n dc_Hall_make_63 rfl rfl k) ?_
  refine sx_p (fun Z k => sh_iload_n dc_Hall_make_64 rfl rfl k) ?_
  refine sx_p (fun Z k => sh_iload_n dc_Hall_make_65 rfl rfl k) ?_
  refine sx_p (fun Z k => sh_aloadq (x := none) dc_Hall_make_66 rfl k) ?_
  refine sx_c (sh_stat (As := [.int 2, .int z, .null]) dc_Hall_make_68 lm_Hall_newSync ln_Hall_58 wd_309 wd_49 rfl rfl (Nat.le_of_ble_eq_true rfl)) (sx_Hall_newSync_k2 (x := z) (n := n) (h := h1)) ⟨by decide, Nat.le_of_ble_eq_true rfl, by decide, by decide⟩ ?_
  rintro n2 h2 ⟨en2, z2_0, z2_1, z2_2, e2⟩
  rw [en2]
  have f2_0 : h2 a = some (false, 0, [.ref w, .ref sy, .ref o, .int c, .double t]) := (e2 _ (by omega) ).trans f1_0
  have f2_1 : h2 sy = some (true, 5, vs) := (e2 _ (by omega) ).trans f1_1
  have f2_2 : h2 n = some (false, 5, [.int 2, .ref (n + 1), .double FP.dconst0, .int 0, .int z]) := z2_0
  have f2_3 : h2 (n + 1) = some (false, 2, [.ref (n + 1 + 1), .int 0]) := z2_1
  have f2_4 : h2 (n + 1 + 1) = some (true, 4, [.null, .null, .null, .null, .null, .null]) := z2_2
  have w2 : ∀ q, q < n → q ≠ a → q ≠ sy → h2 q = h q := fun q hq na nsy => (e2 q (by omega) ).trans (w1 q hq na nsy)
  refine sx_o (q := sy) (o := (true, 5, (vs.set x.toNatClampNeg (.ref n)))) (fun Z k => sh_aast dc_Hall_make_71 f2_1 rfl hx0 hv f2_2 rfl (Or.inr wd_1096) k) ?_
  intro h3 g3 e3
  have f3_0 : h3 a = some (false, 0, [.ref w, .ref sy, .ref o, .int c, .double t]) := (e3 _ (by omega)).trans f2_0
  have f3_2 : h3 n = some (false, 5, [.int 2, .ref (n + 1), .double FP.dconst0, .int 0, .int z]) := (e3 _ (by omega)).trans f2_2
  have f3_3 : h3 (n + 1) = some (false, 2, [.ref (n + 1 + 1), .int 0]) := (e3 _ (by omega)).trans f2_3
  have f3_4 : h3 (n + 1 + 1) = some (true, 4, [.null, .null, .null, .null, .null, .null]) := (e3 _ (by omega)).trans f2_4
  have f3_1 : h3 sy = some (true, 5, (vs.set x.toNatClampNeg (.ref n))) := g3
  have w3 : ∀ q, q < n → q ≠ a → q ≠ sy → h3 q = h q := fun q hq na nsy => (e3 q (by omega)).trans (w2 q hq na nsy)
  refine sx_p (fun Z k => sh_aload_n dc_Hall_make_72 rfl rfl k) ?_
  refine sx_p (fun Z k => sh_dup dc_Hall_make_73 rfl k) ?_
  refine sx_p (fun Z k => sh_get (k := 3) dc_Hall_make_74 f3_0 rfl (by decide) fl_Hall_31 rfl k) ?_
  refine sx_p (fun Z k => sh_iconst (v := 1) dc_Hall_make_77 (by decide) k) ?_
  refine sx_p (fun Z k => sh_iadd dc_Hall_make_78 k) ?_
  refine sx_o (q := a) (o := (false, 0, [.ref w, .ref sy, .ref o, .int (c + 1), .double t])) (fun Z k => sh_put (k := 3) dc_Hall_make_79 f3_0 rfl (by decide) fl_Hall_31 rfl pd_I rfl rfl k) ?_
  intro h4 g4 e4
  have f4_1 : h4 sy = some (true, 5, (vs.set x.toNatClampNeg (.ref n))) := (e4 _ (by omega)).trans f3_1
  have f4_2 : h4 n = some (false, 5, [.int 2, .ref (n + 1), .double FP.dconst0, .int 0, .int z]) := (e4 _ (by omega)).trans f3_2
  have f4_3 : h4 (n + 1) = some (false, 2, [.ref (n + 1 + 1), .int 0]) := (e4 _ (by omega)).trans f3_3
  have f4_4 : h4 (n + 1 + 1) = some (true, 4, [.null, .null, .null, .null, .null, .null]) := (e4 _ (by omega)).trans f3_4
  have f4_0 : h4 a = some (false, 0, [.ref w, .ref sy, .ref o, .int (c + 1), .double t]) := g4
  have w4 : ∀ q, q < n → q ≠ a → q ≠ sy → h4 q = h q := fun q hq na nsy => (e4 q (by omega)).trans (w3 q hq na nsy)
  refine sx_p (fun Z k => sh_aload_n dc_Hall_make_82 rfl rfl k) ?_
  refine sx_p (fun Z k => sh_get (k := 3) dc_Hall_make_83 f4_0 rfl (by decide) fl_Hall_31 rfl k) ?_
  exact sx_e (sh_ireturn dc_Hall_make_86 rfl rfl (by decide) (by decide)) ⟨rfl, f4_0, f4_1, f4_2, f4_3, f4_4, w4⟩
theorem sx_Hall_make_k3 {n : Nat} {h : sh_Hp} {a : Nat} {w : Nat} {sy : Nat} {o : Nat} {c : Int32} {t : UInt64} {vs : List Value} {x : Int32} {z : Int32} (h_a : a < n) (f_a : h a = some (false, 0, [.ref w, .ref sy, .ref o, .int c, .double t])) (h_sy : sy < n) (f_sy : h sy = some (true, 5, vs)) (hne : a ≠ sy) (hx0 : ¬ x < 0) (hx7 : x ≤ 7) (hv : vs[x.toNatClampNeg]? = some .null) (hz0 : ¬ z < 0) (hz1 : z ≤ 5) : sx_M md_Hall_make [.ref a, .int x, .int 3, .int z] n h (some (.int (c + 1))) (fun n' h' => n' = n + 1 + 1 + 1 ∧ h' a = some (false, 0, [.ref w, .ref sy, .ref o, .int (c + 1), .double t]) ∧ h' sy = some (true, 5, (vs.set x.toNatClampNeg (.ref n))) ∧ h' n = some (false, 5, [.int 3, .ref (n + 1), .double FP.dconst0, .int 0, .int z]) ∧ h' (n + 1) = some (false, 2, [.ref (n + 1 + 1), .int 0]) ∧ h' (n + 1 + 1) = some (true, 4, [.null, .null, .null, .null, .null, .null]) ∧ ∀ q, q < n → q ≠ a → q ≠ sy → h' q = h q) := by
  have w0 : ∀ q, q < n → q ≠ a → q ≠ sy → h q = h q := fun _ _ _ _ => rfl
  refine sx_p (fun Z k => sh_iload_n dc_Hall_make_0 rfl rfl k) ?_
  refine sx_p (fun Z k => sh_iconst (v := 0) dc_Hall_make_1 (by decide) k) ?_
  refine sx_p (fun Z k => sh_bipush (v := 7) dc_Hall_make_2 (by decide) k) ?_
  refine sx_q (sh_stat (As := [.int x, .int 0, .int 7]) dc_Hall_make_4 lm_Hall_checkNumber ln_Hall_39 wd_191 wd_49 rfl rfl (Nat.le_of_ble_eq_true rfl)) (pt_Hall_checkNumber_2 hx0 hx7) ⟨by decide, Nat.le_of_ble_eq_true rfl, by decide, by decide⟩ ?_
  refine sx_p (fun Z k => sh_iload_n dc_Hall_make_7 rfl rfl k) ?_
  refine sx_p (fun Z k => sh_iconst (v := 0) dc_Hall_make_8 (by decide) k) ?_
  refine sx_p (fun Z k => sh_bipush (v := 6) dc_Hall_make_9 (by decide) k) ?_
  refine sx_q (sh_stat (As := [.int 3, .int 0, .int 6]) dc_Hall_make_11 lm_Hall_checkNumber ln_Hall_39 wd_191 wd_49 rfl rfl (Nat.le_of_ble_eq_true rfl)) (pt_Hall_checkNumber_2 (by decide) (by decide)) ⟨by decide, Nat.le_of_ble_eq_true rfl, by decide, by decide⟩ ?_
  refine sx_p (fun Z k => sh_iload_n dc_Hall_make_14 rfl rfl k) ?_
  refine sx_p (fun Z k => sh_iconst (v := 0) dc_Hall_make_15 (by decide) k) ?_
  refine sx_p (fun Z k => sh_iload_n dc_Hall_make_16 rfl rfl k) ?_
  refine sx_c (sh_stat (As := [.int 3]) dc_Hall_make_17 lm_Hall_greatestFor ln_Hall_43 wd_264 wd_49 rfl rfl (Nat.le_of_ble_eq_true rfl)) (sx_Hall_greatestFor_k3 (n := n) (h := h)) ⟨by decide, Nat.le_of_ble_eq_true rfl, by decide, by decide⟩ ?_
  rintro n1 h1 ⟨en1, e1⟩
  rw [en1]
  have f1_0 : h1 a = some (false, 0, [.ref w, .ref sy, .ref o, .int c, .double t]) := (e1 _ (by omega) ).trans f_a
  have f1_1 : h1 sy = some (true, 5, vs) := (e1 _ (by omega) ).trans f_sy
  have w1 : ∀ q, q < n → q ≠ a → q ≠ sy → h1 q = h q := fun q hq na nsy => (e1 q (by omega) ).trans (w0 q hq na nsy)
  refine sx_q (sh_stat (As := [.int z, .int 0, .int 5]) dc_Hall_make_20 lm_Hall_checkNumber ln_Hall_39 wd_191 wd_49 rfl rfl (Nat.le_of_ble_eq_true rfl)) (pt_Hall_checkNumber_2 hz0 hz1) ⟨by decide, Nat.le_of_ble_eq_true rfl, by decide, by decide⟩ ?_
  refine sx_p (fun Z k => sh_iload_n dc_Hall_make_23 rfl rfl k) ?_
  refine sx_p (fun Z k => sh_bipush (v := 6) dc_Hall_make_24 (by decide) k) ?_
  refine sx_p (fun Z k => sh_icmp_ne (tgt := 37) dc_Hall_make_26 (by decide) (fun _ => k) (fun z => absurd z (by decide))) ?_
  refine sx_p (fun Z k => sh_anull dc_Hall_make_37 k) ?_
  refine sx_p (fun Z k => sh_astoreN dc_Hall_make_38 (by decide) k) ?_
  refine sx_p (fun Z k => sh_aload_n dc_Hall_make_40 rfl rfl k) ?_
  refine sx_p (fun Z k => sh_get (k := 1) dc_Hall_make_41 f1_0 rfl (by decide) fl_Hall_20 rfl k) ?_
  refine sx_p (fun Z k => sh_iload_n dc_Hall_make_44 rfl rfl k) ?_
  refine sx_p (fun Z k => sh_aald dc_Hall_make_45 f1_1 rfl hx0 hv k) ?_
  refine sx_p (fun Z k => sh_ifnullN (tgt := 59) dc_Hall_make_46 (by decide) k) ?_
  refine sx_p (fun Z k => sh_aload_n dc_Hall_make_59 rfl rfl k) ?_
  refine sx_p (fun Z k => sh_get (k := 1) dc_Hall_make_60 f1_0 rfl (by decide) fl_Hall_20 rfl k) ?_
  refine sx_p (fun Z k => sh_iload_n dc_Hall_make_63 rfl rfl k) ?_
  refine sx_p (fun Z k => sh_iload_n dc_Hall_make_64 rfl rfl k) ?_
  refine sx_p (fun Z k => sh_iload_n dc_Hall_make_65 rfl rfl k) ?_
  refine sx_p (fun Z k => sh_aloadq (x := none) dc_Hall_make_66 rfl k) ?_
  refine sx_c (sh_stat (As := [.int 3, .int z, .null]) dc_Hall_make_68 lm_Hall_newSync ln_Hall_58 wd_309 wd_49 rfl rfl (Nat.le_of_ble_eq_true rfl)) (sx_Hall_newSync_k3 (x := z) (n := n) (h := h1)) ⟨by decide, Nat.le_of_ble_eq_true rfl, by decide, by decide⟩ ?_
  rintro n2 h2 ⟨en2, z2_0, z2_1, z2_2, e2⟩
  rw [en2]
  have f2_0 : h2 a = some (false, 0, [.ref w, .ref sy, .ref o, .int c, .double t]) := (e2 _ (by omega) ).trans f1_0
  have f2_1 : h2 sy = some (true, 5, vs) := (e2 _ (by omega) ).trans f1_1
  have f2_2 : h2 n = some (false, 5, [.int 3, .ref (n + 1), .double FP.dconst0, .int 0, .int z]) := z2_0
  have f2_3 : h2 (n + 1) = some (false, 2, [.ref (n + 1 + 1), .int 0]) := z2_1
  have f2_4 : h2 (n + 1 + 1) = some (true, 4, [.null, .null, .null, .null, .null, .null]) := z2_2
  have w2 : ∀ q, q < n → q ≠ a → q ≠ sy → h2 q = h q := fun q hq na nsy => (e2 q (by omega) ).trans (w1 q hq na nsy)
  refine sx_o (q := sy) (o := (true, 5, (vs.set x.toNatClampNeg (.ref n)))) (fun Z k => sh_aast dc_Hall_make_71 f2_1 rfl hx0 hv f2_2 rfl (Or.inr wd_1096) k) ?_
  intro h3 g3 e3
  have f3_0 : h3 a = some (false, 0, [.ref w, .ref sy, .ref o, .int c, .double t]) := (e3 _ (by omega)).trans f2_0
  have f3_2 : h3 n = some (false, 5, [.int 3, .ref (n + 1), .double FP.dconst0, .int 0, .int z]) := (e3 _ (by omega)).trans f2_2
  have f3_3 : h3 (n + 1) = some (false, 2, [.ref (n + 1 + 1), .int 0]) := (e3 _ (by omega)).trans f2_3
  have f3_4 : h3 (n + 1 + 1) = some (true, 4, [.null, .null, .null, .null, .null, .null]) := (e3 _ (by omega)).trans f2_4
  have f3_1 : h3 sy = some (true, 5, (vs.set x.toNatClampNeg (.ref n))) := g3
  have w3 : ∀ q, q < n → q ≠ a → q ≠ sy → h3 q = h q := fun q hq na nsy => (e3 q (by omega)).trans (w2 q hq na nsy)
  refine sx_p (fun Z k => sh_aload_n dc_Hall_make_72 rfl rfl k) ?_
  refine sx_p (fun Z k => sh_dup dc_Hall_make_73 rfl k) ?_
  refine sx_p (fun Z k => sh_get (k := 3) dc_Hall_make_74 f3_0 rfl (by decide) fl_Hall_31 rfl k) ?_
  refine sx_p (fun Z k => sh_iconst (v := 1) dc_Hall_make_77 (by decide) k) ?_
  refine sx_p (fun Z k => sh_iadd dc_Hall_make_78 k) ?_
  refine sx_o (q := a) (o := (false, 0, [.ref w, .ref sy, .ref o, .int (c + 1), .double t])) (fun Z k => sh_put (k := 3) dc_Hall_make_79 f3_0 rfl (by decide) fl_Hall_31 rfl pd_I rfl rfl k) ?_
  intro h4 g4 e4
  have f4_1 : h4 sy = some (true, 5, (vs.set x.toNatClampNeg (.ref n))) := (e4 _ (by omega)).trans f3_1
  have f4_2 : h4 n = some (false, 5, [.int 3, .ref (n + 1), .double FP.dconst0, .int 0, .int z]) := (e4 _ (by omega)).trans f3_2
  have f4_3 : h4 (n + 1) = some (false, 2, [.ref (n + 1 + 1), .int 0]) := (e4 _ (by omega)).trans f3_3
  have f4_4 : h4 (n + 1 + 1) = some (true, 4, [.null, .null, .null, .null, .null, .null]) := (e4 _ (by omega)).trans f3_4
  have f4_0 : h4 a = some (false, 0, [.ref w, .ref sy, .ref o, .int (c + 1), .double t]) := g4
  have w4 : ∀ q, q < n → q ≠ a → q ≠ sy → h4 q = h q := fun q hq na nsy => (e4 q (by omega)).trans (w3 q hq na nsy)
  refine sx_p (fun Z k => sh_aload_n dc_Hall_make_82 rfl rfl k) ?_
  refine sx_p (fun Z k => sh_get (k := 3) dc_Hall_make_83 f4_0 rfl (by decide) fl_Hall_31 rfl k) ?_
  exact sx_e (sh_ireturn dc_Hall_make_86 rfl rfl (by decide) (by decide)) ⟨rfl, f4_0, f4_1, f4_2, f4_3, f4_4, w4⟩
theorem sx_Hall_make_k4 {n : Nat} {h : sh_Hp} {a : Nat} {w : Nat} {sy : Nat} {o : Nat} {c : Int32} {t : UInt64} {vs : List Value} {x : Int32} {z : Int32} (h_a : a < n) (f_a : h a = some (false, 0, [.ref w, .ref sy, .ref o, .int c, .double t])) (h_sy : sy < n) (f_sy : h sy = some (true, 5, vs)) (hne : a ≠ sy) (hx0 : ¬ x < 0) (hx7 : x ≤ 7) (hv : vs[x.toNatClampNeg]? = some .null) (hz0 : ¬ z < 0) (hz1 : z ≤ 5) : sx_M md_Hall_make [.ref a, .int x, .int 4, .int z] n h (some (.int (c + 1))) (fun n' h' => n' = n + 1 + 1 + 1 ∧ h' a = some (false, 0, [.ref w, .ref sy, .ref o, .int (c + 1), .double t]) ∧ h' sy = some (true, 5, (vs.set x.toNatClampNeg (.ref n))) ∧ h' n = some (false, 6, [.int 4, .ref (n + 1), .double FP.dconst0, .int 0, .int z]) ∧ h' (n + 1) = some (false, 2, [.ref (n + 1 + 1), .int 0]) ∧ h' (n + 1 + 1) = some (true, 4, [.null, .null, .null, .null, .null, .null]) ∧ ∀ q, q < n → q ≠ a → q ≠ sy → h' q = h q) := by
  have w0 : ∀ q, q < n → q ≠ a → q ≠ sy → h q = h q := fun _ _ _ _ => rfl
  refine sx_p (fun Z k => sh_iload_n dc_Hall_make_0 rfl rfl k) ?_
  refine sx_p (fun Z k => sh_iconst (v := 0) dc_Hall_make_1 (by decide) k) ?_
  refine sx_p (fun Z k => sh_bipush (v := 7) dc_Hall_make_2 (by decide) k) ?_
  refine sx_q (sh_stat (As := [.int x, .int 0, .int 7]) dc_Hall_make_4 lm_Hall_checkNumber ln_Hall_39 wd_191 wd_49 rfl rfl (Nat.le_of_ble_eq_true rfl)) (pt_Hall_checkNumber_2 hx0 hx7) ⟨by decide, Nat.le_of_ble_eq_true rfl, by decide, by decide⟩ ?_
  refine sx_p (fun Z k => sh_iload_n dc_Hall_make_7 rfl rfl k) ?_
  refine sx_p (fun Z k => sh_iconst (v := 0) dc_Hall_make_8 (by decide) k) ?_
  refine sx_p (fun Z k => sh_bipush (v := 6) dc_Hall_make_9 (by decide) k) ?_
  refine sx_q (sh_stat (As := [.int 4, .int 0, .int 6]) dc_Hall_make_11 lm_Hall_checkNumber ln_Hall_39 wd_191 wd_49 rfl rfl (Nat.le_of_ble_eq_true rfl)) (pt_Hall_checkNumber_2 (by decide) (by decide)) ⟨by decide, Nat.le_of_ble_eq_true rfl, by decide, by decide⟩ ?_
  refine sx_p (fun Z k => sh_iload_n dc_Hall_make_14 rfl rfl k) ?_
  refine sx_p (fun Z k => sh_iconst (v := 0) dc_Hall_make_15 (by decide) k) ?_
  refine sx_p (fun Z k => sh_iload_n dc_Hall_make_16 rfl rfl k) ?_
  refine sx_c (sh_stat (As := [.int 4]) dc_Hall_make_17 lm_Hall_greatestFor ln_Hall_43 wd_264 wd_49 rfl rfl (Nat.le_of_ble_eq_true rfl)) (sx_Hall_greatestFor_k4 (n := n) (h := h)) ⟨by decide, Nat.le_of_ble_eq_true rfl, by decide, by decide⟩ ?_
  rintro n1 h1 ⟨en1, e1⟩
  rw [en1]
  have f1_0 : h1 a = some (false, 0, [.ref w, .ref sy, .ref o, .int c, .double t]) := (e1 _ (by omega) ).trans f_a
  have f1_1 : h1 sy = some (true, 5, vs) := (e1 _ (by omega) ).trans f_sy
  have w1 : ∀ q, q < n → q ≠ a → q ≠ sy → h1 q = h q := fun q hq na nsy => (e1 q (by omega) ).trans (w0 q hq na nsy)
  refine sx_q (sh_stat (As := [.int z, .int 0, .int 5]) dc_Hall_make_20 lm_Hall_checkNumber ln_Hall_39 wd_191 wd_49 rfl rfl (Nat.le_of_ble_eq_true rfl)) (pt_Hall_checkNumber_2 hz0 hz1) ⟨by decide, Nat.le_of_ble_eq_true rfl, by decide, by decide⟩ ?_
  refine sx_p (fun Z k => sh_iload_n dc_Hall_make_23 rfl rfl k) ?_
  refine sx_p (fun Z k => sh_bipush (v := 6) dc_Hall_make_24 (by decide) k) ?_
  refine sx_p (fun Z k => sh_icmp_ne (tgt := 37) dc_Hall_make_26 (by decide) (fun _ => k) (fun z => absurd z (by decide))) ?_
  refine sx_p (fun Z k => sh_anull dc_Hall_make_37 k) ?_
  refine sx_p (fun Z k => sh_astoreN dc_Hall_make_38 (by decide) k) ?_
  refine sx_p (fun Z k => sh_aload_n dc_Hall_make_40 rfl rfl k) ?_
  refine sx_p (fun Z k => sh_get (k := 1) dc_Hall_make_41 f1_0 rfl (by decide) fl_Hall_20 rfl k) ?_
  refine sx_p (fun Z k => sh_iload_n dc_Hall_make_44 rfl rfl k) ?_
  refine sx_p (fun Z k => sh_aald dc_Hall_make_45 f1_1 rfl hx0 hv k) ?_
  refine sx_p (fun Z k => sh_ifnullN (tgt := 59) dc_Hall_make_46 (by decide) k) ?_
  refine sx_p (fun Z k => sh_aload_n dc_Hall_make_59 rfl rfl k) ?_
  refine sx_p (fun Z k => sh_get (k := 1) dc_Hall_make_60 f1_0 rfl (by decide) fl_Hall_20 rfl k) ?_
  refine sx_p (fun Z k => sh_iload_n dc_Hall_make_63 rfl rfl k) ?_
  refine sx_p (fun Z k => sh_iload_n dc_Hall_make_64 rfl rfl k) ?_
  refine sx_p (fun Z k => sh_iload_n dc_Hall_make_65 rfl rfl k) ?_
  refine sx_p (fun Z k => sh_aloadq (x := none) dc_Hall_make_66 rfl k) ?_
  refine sx_c (sh_stat (As := [.int 4, .int z, .null]) dc_Hall_make_68 lm_Hall_newSync ln_Hall_58 wd_309 wd_49 rfl rfl (Nat.le_of_ble_eq_true rfl)) (sx_Hall_newSync_k4 (x := z) (n := n) (h := h1)) ⟨by decide, Nat.le_of_ble_eq_true rfl, by decide, by decide⟩ ?_
  rintro n2 h2 ⟨en2, z2_0, z2_1, z2_2, e2⟩
  rw [en2]
  have f2_0 : h2 a = some (false, 0, [.ref w, .ref sy, .ref o, .int c, .double t]) := (e2 _ (by omega) ).trans f1_0
  have f2_1 : h2 sy = some (true, 5, vs) := (e2 _ (by omega) ).trans f1_1
  have f2_2 : h2 n = some (false, 6, [.int 4, .ref (n + 1), .double FP.dconst0, .int 0, .int z]) := z2_0
  have f2_3 : h2 (n + 1) = some (false, 2, [.ref (n + 1 + 1), .int 0]) := z2_1
  have f2_4 : h2 (n + 1 + 1) = some (true, 4, [.null, .null, .null, .null, .null, .null]) := z2_2
  have w2 : ∀ q, q < n → q ≠ a → q ≠ sy → h2 q = h q := fun q hq na nsy => (e2 q (by omega) ).trans (w1 q hq na nsy)
  refine sx_o (q := sy) (o := (true, 5, (vs.set x.toNatClampNeg (.ref n)))) (fun Z k => sh_aast dc_Hall_make_71 f2_1 rfl hx0 hv f2_2 rfl (Or.inr wd_1094) k) ?_
  intro h3 g3 e3
  have f3_0 : h3 a = some (false, 0, [.ref w, .ref sy, .ref o, .int c, .double t]) := (e3 _ (by omega)).trans f2_0
  have f3_2 : h3 n = some (false, 6, [.int 4, .ref (n + 1), .double FP.dconst0, .int 0, .int z]) := (e3 _ (by omega)).trans f2_2
  have f3_3 : h3 (n + 1) = some (false, 2, [.ref (n + 1 + 1), .int 0]) := (e3 _ (by omega)).trans f2_3
  have f3_4 : h3 (n + 1 + 1) = some (true, 4, [.null, .null, .null, .null, .null, .null]) := (e3 _ (by omega)).trans f2_4
  have f3_1 : h3 sy = some (true, 5, (vs.set x.toNatClampNeg (.ref n))) := g3
  have w3 : ∀ q, q < n → q ≠ a → q ≠ sy → h3 q = h q := fun q hq na nsy => (e3 q (by omega)).trans (w2 q hq na nsy)
  refine sx_p (fun Z k => sh_aload_n dc_Hall_make_72 rfl rfl k) ?_
  refine sx_p (fun Z k => sh_dup dc_Hall_make_73 rfl k) ?_
  refine sx_p (fun Z k => sh_get (k := 3) dc_Hall_make_74 f3_0 rfl (by decide) fl_Hall_31 rfl k) ?_
  refine sx_p (fun Z k => sh_iconst (v := 1) dc_Hall_make_77 (by decide) k) ?_
  refine sx_p (fun Z k => sh_iadd dc_Hall_make_78 k) ?_
  refine sx_o (q := a) (o := (false, 0, [.ref w, .ref sy, .ref o, .int (c + 1), .double t])) (fun Z k => sh_put (k := 3) dc_Hall_make_79 f3_0 rfl (by decide) fl_Hall_31 rfl pd_I rfl rfl k) ?_
  intro h4 g4 e4
  have f4_1 : h4 sy = some (true, 5, (vs.set x.toNatClampNeg (.ref n))) := (e4 _ (by omega)).trans f3_1
  have f4_2 : h4 n = some (false, 6, [.int 4, .ref (n + 1), .double FP.dconst0, .int 0, .int z]) := (e4 _ (by omega)).trans f3_2
  have f4_3 : h4 (n + 1) = some (false, 2, [.ref (n + 1 + 1), .int 0]) := (e4 _ (by omega)).trans f3_3
  have f4_4 : h4 (n + 1 + 1) = some (true, 4, [.null, .null, .null, .null, .null, .null]) := (e4 _ (by omega)).trans f3_4
  have f4_0 : h4 a = some (false, 0, [.ref w, .ref sy, .ref o, .int (c + 1), .double t]) := g4
  have w4 : ∀ q, q < n → q ≠ a → q ≠ sy → h4 q = h q := fun q hq na nsy => (e4 q (by omega)).trans (w3 q hq na nsy)
  refine sx_p (fun Z k => sh_aload_n dc_Hall_make_82 rfl rfl k) ?_
  refine sx_p (fun Z k => sh_get (k := 3) dc_Hall_make_83 f4_0 rfl (by decide) fl_Hall_31 rfl k) ?_
  exact sx_e (sh_ireturn dc_Hall_make_86 rfl rfl (by decide) (by decide)) ⟨rfl, f4_0, f4_1, f4_2, f4_3, f4_4, w4⟩
theorem sx_Hall_make_k5 {n : Nat} {h : sh_Hp} {a : Nat} {w : Nat} {sy : Nat} {o : Nat} {c : Int32} {t : UInt64} {vs : List Value} {x : Int32} {z : Int32} (h_a : a < n) (f_a : h a = some (false, 0, [.ref w, .ref sy, .ref o, .int c, .double t])) (h_sy : sy < n) (f_sy : h sy = some (true, 5, vs)) (hne : a ≠ sy) (hx0 : ¬ x < 0) (hx7 : x ≤ 7) (hv : vs[x.toNatClampNeg]? = some .null) (hz0 : ¬ z < 0) (hz1 : z ≤ 0) : sx_M md_Hall_make [.ref a, .int x, .int 5, .int z] n h (some (.int (c + 1))) (fun n' h' => n' = n + 1 + 1 + 1 + 1 ∧ h' a = some (false, 0, [.ref w, .ref sy, .ref o, .int (c + 1), .double t]) ∧ h' sy = some (true, 5, (vs.set x.toNatClampNeg (.ref n))) ∧ h' n = some (false, 7, [.int 5, .ref (n + 1), .double FP.dconst0, .int 0, .ref (n + 1 + 1 + 1), .null, .int 0]) ∧ h' (n + 1) = some (false, 2, [.ref (n + 1 + 1), .int 0]) ∧ h' (n + 1 + 1) = some (true, 4, [.null, .null, .null, .null, .null, .null]) ∧ h' (n + 1 + 1 + 1) = some (true, 0, List.replicate 6 (.int 0)) ∧ ∀ q, q < n → q ≠ a → q ≠ sy → h' q = h q) := by
  have w0 : ∀ q, q < n → q ≠ a → q ≠ sy → h q = h q := fun _ _ _ _ => rfl
  refine sx_p (fun Z k => sh_iload_n dc_Hall_make_0 rfl rfl k) ?_
  refine sx_p (fun Z k => sh_iconst (v := 0) dc_Hall_make_1 (by decide) k) ?_
  refine sx_p (fun Z k => sh_bipush (v := 7) dc_Hall_make_2 (by decide) k) ?_
  refine sx_q (sh_stat (As := [.int x, .int 0, .int 7]) dc_Hall_make_4 lm_Hall_checkNumber ln_Hall_39 wd_191 wd_49 rfl rfl (Nat.le_of_ble_eq_true rfl)) (pt_Hall_checkNumber_2 hx0 hx7) ⟨by decide, Nat.le_of_ble_eq_true rfl, by decide, by decide⟩ ?_
  refine sx_p (fun Z k => sh_iload_n dc_Hall_make_7 rfl rfl k) ?_
  refine sx_p (fun Z k => sh_iconst (v := 0) dc_Hall_make_8 (by decide) k) ?_
  refine sx_p (fun Z k => sh_bipush (v := 6) dc_Hall_make_9 (by decide) k) ?_
  refine sx_q (sh_stat (As := [.int 5, .int 0, .int 6]) dc_Hall_make_11 lm_Hall_checkNumber ln_Hall_39 wd_191 wd_49 rfl rfl (Nat.le_of_ble_eq_true rfl)) (pt_Hall_checkNumber_2 (by decide) (by decide)) ⟨by decide, Nat.le_of_ble_eq_true rfl, by decide, by decide⟩ ?_
  refine sx_p (fun Z k => sh_iload_n dc_Hall_make_14 rfl rfl k) ?_
  refine sx_p (fun Z k => sh_iconst (v := 0) dc_Hall_make_15 (by decide) k) ?_
  refine sx_p (fun Z k => sh_iload_n dc_Hall_make_16 rfl rfl k) ?_
  refine sx_c (sh_stat (As := [.int 5]) dc_Hall_make_17 lm_Hall_greatestFor ln_Hall_43 wd_264 wd_49 rfl rfl (Nat.le_of_ble_eq_true rfl)) (sx_Hall_greatestFor_k5 (n := n) (h := h)) ⟨by decide, Nat.le_of_ble_eq_true rfl, by decide, by decide⟩ ?_
  rintro n1 h1 ⟨en1, e1⟩
  rw [en1]
  have f1_0 : h1 a = some (false, 0, [.ref w, .ref sy, .ref o, .int c, .double t]) := (e1 _ (by omega) ).trans f_a
  have f1_1 : h1 sy = some (true, 5, vs) := (e1 _ (by omega) ).trans f_sy
  have w1 : ∀ q, q < n → q ≠ a → q ≠ sy → h1 q = h q := fun q hq na nsy => (e1 q (by omega) ).trans (w0 q hq na nsy)
  refine sx_q (sh_stat (As := [.int z, .int 0, .int 0]) dc_Hall_make_20 lm_Hall_checkNumber ln_Hall_39 wd_191 wd_49 rfl rfl (Nat.le_of_ble_eq_true rfl)) (pt_Hall_checkNumber_2 hz0 hz1) ⟨by decide, Nat.le_of_ble_eq_true rfl, by decide, by decide⟩ ?_
  refine sx_p (fun Z k => sh_iload_n dc_Hall_make_23 rfl rfl k) ?_
  refine sx_p (fun Z k => sh_bipush (v := 6) dc_Hall_make_24 (by decide) k) ?_
  refine sx_p (fun Z k => sh_icmp_ne (tgt := 37) dc_Hall_make_26 (by decide) (fun _ => k) (fun z => absurd z (by decide))) ?_
  refine sx_p (fun Z k => sh_anull dc_Hall_make_37 k) ?_
  refine sx_p (fun Z k => sh_astoreN dc_Hall_make_38 (by decide) k) ?_
  refine sx_p (fun Z k => sh_aload_n dc_Hall_make_40 rfl rfl k) ?_
  refine sx_p (fun Z k => sh_get (k := 1) dc_Hall_make_41 f1_0 rfl (by decide) fl_Hall_20 rfl k) ?_
  refine sx_p (fun Z k => sh_iload_n dc_Hall_make_44 rfl rfl k) ?_
  refine sx_p (fun Z k => sh_aald dc_Hall_make_45 f1_1 rfl hx0 hv k) ?_
  refine sx_p (fun Z k => sh_ifnullN (tgt := 59) dc_Hall_make_46 (by decide) k) ?_
  refine sx_p (fun Z k => sh_aload_n dc_Hall_make_59 rfl rfl k) ?_
  refine sx_p (fun Z k => sh_get (k := 1) dc_Hall_make_60 f1_0 rfl (by decide) fl_Hall_20 rfl k) ?_
  refine sx_p (fun Z k => sh_iload_n dc_Hall_make_63 rfl rfl k) ?_
  refine sx_p (fun Z k => sh_iload_n dc_Hall_make_64 rfl rfl k) ?_
  refine sx_p (fun Z k => sh_iload_n dc_Hall_make_65 rfl rfl k) ?_
  refine sx_p (fun Z k => sh_aloadq (x := none) dc_Hall_make_66 rfl k) ?_
  refine sx_c (sh_stat (As := [.int 5, .int z, .null]) dc_Hall_make_68 lm_Hall_newSync ln_Hall_58 wd_309 wd_49 rfl rfl (Nat.le_of_ble_eq_true rfl)) (sx_Hall_newSync_k5 (x := z) (n := n) (h := h1)) ⟨by decide, Nat.le_of_ble_eq_true rfl, by decide, by decide⟩ ?_
  rintro n2 h2 ⟨en2, z2_0, z2_1, z2_2, z2_3, e2⟩
  rw [en2]
  have f2_0 : h2 a = some (false, 0, [.ref w, .ref sy, .ref o, .int c, .double t]) := (e2 _ (by omega) ).trans f1_0
  have f2_1 : h2 sy = some (true, 5, vs) := (e2 _ (by omega) ).trans f1_1
  have f2_2 : h2 n = some (false, 7, [.int 5, .ref (n + 1), .double FP.dconst0, .int 0, .ref (n + 1 + 1 + 1), .null, .int 0]) := z2_0
  have f2_3 : h2 (n + 1) = some (false, 2, [.ref (n + 1 + 1), .int 0]) := z2_1
  have f2_4 : h2 (n + 1 + 1) = some (true, 4, [.null, .null, .null, .null, .null, .null]) := z2_2
  have f2_5 : h2 (n + 1 + 1 + 1) = some (true, 0, List.replicate 6 (.int 0)) := z2_3
  have w2 : ∀ q, q < n → q ≠ a → q ≠ sy → h2 q = h q := fun q hq na nsy => (e2 q (by omega) ).trans (w1 q hq na nsy)
  refine sx_o (q := sy) (o := (true, 5, (vs.set x.toNatClampNeg (.ref n)))) (fun Z k => sh_aast dc_Hall_make_71 f2_1 rfl hx0 hv f2_2 rfl (Or.inr wd_1097) k) ?_
  intro h3 g3 e3
  have f3_0 : h3 a = some (false, 0, [.ref w, .ref sy, .ref o, .int c, .double t]) := (e3 _ (by omega)).trans f2_0
  have f3_2 : h3 n = some (false, 7, [.int 5, .ref (n + 1), .double FP.dconst0, .int 0, .ref (n + 1 + 1 + 1), .null, .int 0]) := (e3 _ (by omega)).trans f2_2
  have f3_3 : h3 (n + 1) = some (false, 2, [.ref (n + 1 + 1), .int 0]) := (e3 _ (by omega)).trans f2_3
  have f3_4 : h3 (n + 1 + 1) = some (true, 4, [.null, .null, .null, .null, .null, .null]) := (e3 _ (by omega)).trans f2_4
  have f3_5 : h3 (n + 1 + 1 + 1) = some (true, 0, List.replicate 6 (.int 0)) := (e3 _ (by omega)).trans f2_5
  have f3_1 : h3 sy = some (true, 5, (vs.set x.toNatClampNeg (.ref n))) := g3
  have w3 : ∀ q, q < n → q ≠ a → q ≠ sy → h3 q = h q := fun q hq na nsy => (e3 q (by omega)).trans (w2 q hq na nsy)
  refine sx_p (fun Z k => sh_aload_n dc_Hall_make_72 rfl rfl k) ?_
  refine sx_p (fun Z k => sh_dup dc_Hall_make_73 rfl k) ?_
  refine sx_p (fun Z k => sh_get (k := 3) dc_Hall_make_74 f3_0 rfl (by decide) fl_Hall_31 rfl k) ?_
  refine sx_p (fun Z k => sh_iconst (v := 1) dc_Hall_make_77 (by decide) k) ?_
  refine sx_p (fun Z k => sh_iadd dc_Hall_make_78 k) ?_
  refine sx_o (q := a) (o := (false, 0, [.ref w, .ref sy, .ref o, .int (c + 1), .double t])) (fun Z k => sh_put (k := 3) dc_Hall_make_79 f3_0 rfl (by decide) fl_Hall_31 rfl pd_I rfl rfl k) ?_
  intro h4 g4 e4
  have f4_1 : h4 sy = some (true, 5, (vs.set x.toNatClampNeg (.ref n))) := (e4 _ (by omega)).trans f3_1
  have f4_2 : h4 n = some (false, 7, [.int 5, .ref (n + 1), .double FP.dconst0, .int 0, .ref (n + 1 + 1 + 1), .null, .int 0]) := (e4 _ (by omega)).trans f3_2
  have f4_3 : h4 (n + 1) = some (false, 2, [.ref (n + 1 + 1), .int 0]) := (e4 _ (by omega)).trans f3_3
  have f4_4 : h4 (n + 1 + 1) = some (true, 4, [.null, .null, .null, .null, .null, .null]) := (e4 _ (by omega)).trans f3_4
  have f4_5 : h4 (n + 1 + 1 + 1) = some (true, 0, List.replicate 6 (.int 0)) := (e4 _ (by omega)).trans f3_5
  have f4_0 : h4 a = some (false, 0, [.ref w, .ref sy, .ref o, .int (c + 1), .double t]) := g4
  have w4 : ∀ q, q < n → q ≠ a → q ≠ sy → h4 q = h q := fun q hq na nsy => (e4 q (by omega)).trans (w3 q hq na nsy)
  refine sx_p (fun Z k => sh_aload_n dc_Hall_make_82 rfl rfl k) ?_
  refine sx_p (fun Z k => sh_get (k := 3) dc_Hall_make_83 f4_0 rfl (by decide) fl_Hall_31 rfl k) ?_
  exact sx_e (sh_ireturn dc_Hall_make_86 rfl rfl (by decide) (by decide)) ⟨rfl, f4_0, f4_1, f4_2, f4_3, f4_4, f4_5, w4⟩
theorem sx_Hall_make_k6 {n : Nat} {h : sh_Hp} {a : Nat} {w : Nat} {sy : Nat} {o : Nat} {c : Int32} {t : UInt64} {vs : List Value} {x : Int32} {z : Int32} {lk : Nat} {fl : List Value} (h_a : a < n) (f_a : h a = some (false, 0, [.ref w, .ref sy, .ref o, .int c, .double t])) (h_sy : sy < n) (f_sy : h sy = some (true, 5, vs)) (h_lk : lk < n) (f_lk : h lk = some (false, 4, fl)) (hne : a ≠ sy) (hx0 : ¬ x < 0) (hx7 : x ≤ 7) (hv : vs[x.toNatClampNeg]? = some .null) (hz0 : ¬ z < 0) (hz1 : z ≤ 7) (hu : vs[z.toNatClampNeg]? = some (.ref lk)) (hn1 : lk ≠ a) (hn2 : lk ≠ sy) : sx_M md_Hall_make [.ref a, .int x, .int 6, .int z] n h (some (.int (c + 1))) (fun n' h' => n' = n + 1 + 1 + 1 ∧ h' a = some (false, 0, [.ref w, .ref sy, .ref o, .int (c + 1), .double t]) ∧ h' sy = some (true, 5, (vs.set x.toNatClampNeg (.ref n))) ∧ h' lk = some (false, 4, fl) ∧ h' n = some (false, 8, [.int 6, .ref (n + 1), .double FP.dconst0, .int 0, .ref lk]) ∧ h' (n + 1) = some (false, 2, [.ref (n + 1 + 1), .int 0]) ∧ h' (n + 1 + 1) = some (true, 4, [.null, .null, .null, .null, .null, .null]) ∧ ∀ q, q < n → q ≠ a → q ≠ sy → q ≠ lk → h' q = h q) := by
  have w0 : ∀ q, q < n → q ≠ a → q ≠ sy → q ≠ lk → h q = h q := fun _ _ _ _ _ => rfl
  refine sx_p (fun Z k => sh_iload_n dc_Hall_make_0 rfl rfl k) ?_
  refine sx_p (fun Z k => sh_iconst (v := 0) dc_Hall_make_1 (by decide) k) ?_
  refine sx_p (fun Z k => sh_bipush (v := 7) dc_Hall_make_2 (by decide) k) ?_
  refine sx_q (sh_stat (As := [.int x, .int 0, .int 7]) dc_Hall_make_4 lm_Hall_checkNumber ln_Hall_39 wd_191 wd_49 rfl rfl (Nat.le_of_ble_eq_true rfl)) (pt_Hall_checkNumber_2 hx0 hx7) ⟨by decide, Nat.le_of_ble_eq_true rfl, by decide, by decide⟩ ?_
  refine sx_p (fun Z k => sh_iload_n dc_Hall_make_7 rfl rfl k) ?_
  refine sx_p (fun Z k => sh_iconst (v := 0) dc_Hall_make_8 (by decide) k) ?_
  refine sx_p (fun Z k => sh_bipush (v := 6) dc_Hall_make_9 (by decide) k) ?_
  refine sx_q (sh_stat (As := [.int 6, .int 0, .int 6]) dc_Hall_make_11 lm_Hall_checkNumber ln_Hall_39 wd_191 wd_49 rfl rfl (Nat.le_of_ble_eq_true rfl)) (pt_Hall_checkNumber_2 (by decide) (by decide)) ⟨by decide, Nat.le_of_ble_eq_true rfl, by decide, by decide⟩ ?_
  refine sx_p (fun Z k => sh_iload_n dc_Hall_make_14 rfl rfl k) ?_
  refine sx_p (fun Z k => sh_iconst (v := 0) dc_Hall_make_15 (by decide) k) ?_
  refine sx_p (fun Z k => sh_iload_n dc_Hall_make_16 rfl rfl k) ?_
  refine sx_c (sh_stat (As := [.int 6]) dc_Hall_make_17 lm_Hall_greatestFor ln_Hall_43 wd_264 wd_49 rfl rfl (Nat.le_of_ble_eq_true rfl)) (sx_Hall_greatestFor_k6 (n := n) (h := h)) ⟨by decide, Nat.le_of_ble_eq_true rfl, by decide, by decide⟩ ?_
  rintro n1 h1 ⟨en1, e1⟩
  rw [en1]
  have f1_0 : h1 a = some (false, 0, [.ref w, .ref sy, .ref o, .int c, .double t]) := (e1 _ (by omega) ).trans f_a
  have f1_1 : h1 sy = some (true, 5, vs) := (e1 _ (by omega) ).trans f_sy
  have f1_2 : h1 lk = some (false, 4, fl) := (e1 _ (by omega) ).trans f_lk
  have w1 : ∀ q, q < n → q ≠ a → q ≠ sy → q ≠ lk → h1 q = h q := fun q hq na nsy nlk => (e1 q (by omega) ).trans (w0 q hq na nsy nlk)
  refine sx_q (sh_stat (As := [.int z, .int 0, .int 7]) dc_Hall_make_20 lm_Hall_checkNumber ln_Hall_39 wd_191 wd_49 rfl rfl (Nat.le_of_ble_eq_true rfl)) (pt_Hall_checkNumber_2 hz0 hz1) ⟨by decide, Nat.le_of_ble_eq_true rfl, by decide, by decide⟩ ?_
  refine sx_p (fun Z k => sh_iload_n dc_Hall_make_23 rfl rfl k) ?_
  refine sx_p (fun Z k => sh_bipush (v := 6) dc_Hall_make_24 (by decide) k) ?_
  refine sx_p (fun Z k => sh_icmp_ne (tgt := 37) dc_Hall_make_26 (by decide) (fun z => absurd (by decide) z) (fun _ => k)) ?_
  refine sx_p (fun Z k => sh_aload_n dc_Hall_make_29 rfl rfl k) ?_
  refine sx_p (fun Z k => sh_iload_n dc_Hall_make_30 rfl rfl k) ?_
  refine sx_c (sh_virt (As := [.int z]) dc_Hall_make_31 lm_Hall_lockAt ln_Hall_47 wd_268 wd_1 rfl rfl (Nat.le_of_ble_eq_true rfl) f1_0 rfl) (sx_Hall_lockAt (a := a) (x := z) (n := n) (h := h1) (by omega) f1_0 (by omega) f1_1 (by omega) f1_2 hne hz0 hz1 hu) ⟨by decide, Nat.le_of_ble_eq_true rfl, by decide, by decide⟩ ?_
  rintro n2 h2 ⟨en2, z2_0, z2_1, z2_2, e2⟩
  rw [en2]
  have f2_0 : h2 a = some (false, 0, [.ref w, .ref sy, .ref o, .int c, .double t]) := z2_0
  have f2_1 : h2 sy = some (true, 5, vs) := z2_1
  have f2_2 : h2 lk = some (false, 4, fl) := z2_2
  have w2 : ∀ q, q < n → q ≠ a → q ≠ sy → q ≠ lk → h2 q = h q := fun q hq na nsy nlk => (e2 q (by omega) (by omega) (by omega) (by omega)).trans (w1 q hq na nsy nlk)
  refine sx_p (fun Z k => sh_goto_ (tgt := 38) dc_Hall_make_34 (by decide) k) ?_
  refine sx_p (fun Z k => sh_astore dc_Hall_make_38 (by decide) k) ?_
  refine sx_p (fun Z k => sh_aload_n dc_Hall_make_40 rfl rfl k) ?_
  refine sx_p (fun Z k => sh_get (k := 1) dc_Hall_make_41 f2_0 rfl (by decide) fl_Hall_20 rfl k) ?_
  refine sx_p (fun Z k => sh_iload_n dc_Hall_make_44 rfl rfl k) ?_
  refine sx_p (fun Z k => sh_aald dc_Hall_make_45 f2_1 rfl hx0 hv k) ?_
  refine sx_p (fun Z k => sh_ifnullN (tgt := 59) dc_Hall_make_46 (by decide) k) ?_
  refine sx_p (fun Z k => sh_aload_n dc_Hall_make_59 rfl rfl k) ?_
  refine sx_p (fun Z k => sh_get (k := 1) dc_Hall_make_60 f2_0 rfl (by decide) fl_Hall_20 rfl k) ?_
  refine sx_p (fun Z k => sh_iload_n dc_Hall_make_63 rfl rfl k) ?_
  refine sx_p (fun Z k => sh_iload_n dc_Hall_make_64 rfl rfl k) ?_
  refine sx_p (fun Z k => sh_iload_n dc_Hall_make_65 rfl rfl k) ?_
  refine sx_p (fun Z k => sh_aload dc_Hall_make_66 rfl k) ?_
  refine sx_c (sh_stat (As := [.int 6, .int z, .ref lk]) dc_Hall_make_68 lm_Hall_newSync ln_Hall_58 wd_309 wd_49 rfl rfl (Nat.le_of_ble_eq_true rfl)) (sx_Hall_newSync_k6 (x := z) (l := lk) (n := n) (h := h2)) ⟨by decide, Nat.le_of_ble_eq_true rfl, by decide, by decide⟩ ?_
  rintro n3 h3 ⟨en3, z3_0, z3_1, z3_2, e3⟩
  rw [en3]
  have f3_0 : h3 a = some (false, 0, [.ref w, .ref sy, .ref o, .int c, .double t]) := (e3 _ (by omega) ).trans f2_0
  have f3_1 : h3 sy = some (true, 5, vs) := (e3 _ (by omega) ).trans f2_1
  have f3_2 : h3 lk = some (false, 4, fl) := (e3 _ (by omega) ).trans f2_2
  have f3_3 : h3 n = some (false, 8, [.int 6, .ref (n + 1), .double FP.dconst0, .int 0, .ref lk]) := z3_0
  have f3_4 : h3 (n + 1) = some (false, 2, [.ref (n + 1 + 1), .int 0]) := z3_1
  have f3_5 : h3 (n + 1 + 1) = some (true, 4, [.null, .null, .null, .null, .null, .null]) := z3_2
  have w3 : ∀ q, q < n → q ≠ a → q ≠ sy → q ≠ lk → h3 q = h q := fun q hq na nsy nlk => (e3 q (by omega) ).trans (w2 q hq na nsy nlk)
  refine sx_o (q := sy) (o := (true, 5, (vs.set x.toNatClampNeg (.ref n)))) (fun Z k => sh_aast dc_Hall_make_71 f3_1 rfl hx0 hv f3_3 rfl (Or.inr wd_1093) k) ?_
  intro h4 g4 e4
  have f4_0 : h4 a = some (false, 0, [.ref w, .ref sy, .ref o, .int c, .double t]) := (e4 _ (by omega)).trans f3_0
  have f4_2 : h4 lk = some (false, 4, fl) := (e4 _ (by omega)).trans f3_2
  have f4_3 : h4 n = some (false, 8, [.int 6, .ref (n + 1), .double FP.dconst0, .int 0, .ref lk]) := (e4 _ (by omega)).trans f3_3
  have f4_4 : h4 (n + 1) = some (false, 2, [.ref (n + 1 + 1), .int 0]) := (e4 _ (by omega)).trans f3_4
  have f4_5 : h4 (n + 1 + 1) = some (true, 4, [.null, .null, .null, .null, .null, .null]) := (e4 _ (by omega)).trans f3_5
  have f4_1 : h4 sy = some (true, 5, (vs.set x.toNatClampNeg (.ref n))) := g4
  have w4 : ∀ q, q < n → q ≠ a → q ≠ sy → q ≠ lk → h4 q = h q := fun q hq na nsy nlk => (e4 q (by omega)).trans (w3 q hq na nsy nlk)
  refine sx_p (fun Z k => sh_aload_n dc_Hall_make_72 rfl rfl k) ?_
  refine sx_p (fun Z k => sh_dup dc_Hall_make_73 rfl k) ?_
  refine sx_p (fun Z k => sh_get (k := 3) dc_Hall_make_74 f4_0 rfl (by decide) fl_Hall_31 rfl k) ?_
  refine sx_p (fun Z k => sh_iconst (v := 1) dc_Hall_make_77 (by decide) k) ?_
  refine sx_p (fun Z k => sh_iadd dc_Hall_make_78 k) ?_
  refine sx_o (q := a) (o := (false, 0, [.ref w, .ref sy, .ref o, .int (c + 1), .double t])) (fun Z k => sh_put (k := 3) dc_Hall_make_79 f4_0 rfl (by decide) fl_Hall_31 rfl pd_I rfl rfl k) ?_
  intro h5 g5 e5
  have f5_1 : h5 sy = some (true, 5, (vs.set x.toNatClampNeg (.ref n))) := (e5 _ (by omega)).trans f4_1
  have f5_2 : h5 lk = some (false, 4, fl) := (e5 _ (by omega)).trans f4_2
  have f5_3 : h5 n = some (false, 8, [.int 6, .ref (n + 1), .double FP.dconst0, .int 0, .ref lk]) := (e5 _ (by omega)).trans f4_3
  have f5_4 : h5 (n + 1) = some (false, 2, [.ref (n + 1 + 1), .int 0]) := (e5 _ (by omega)).trans f4_4
  have f5_5 : h5 (n + 1 + 1) = some (true, 4, [.null, .null, .null, .null, .null, .null]) := (e5 _ (by omega)).trans f4_5
  have f5_0 : h5 a = some (false, 0, [.ref w, .ref sy, .ref o, .int (c + 1), .double t]) := g5
  have w5 : ∀ q, q < n → q ≠ a → q ≠ sy → q ≠ lk → h5 q = h q := fun q hq na nsy nlk => (e5 q (by omega)).trans (w4 q hq na nsy nlk)
  refine sx_p (fun Z k => sh_aload_n dc_Hall_make_82 rfl rfl k) ?_
  refine sx_p (fun Z k => sh_get (k := 3) dc_Hall_make_83 f5_0 rfl (by decide) fl_Hall_31 rfl k) ?_
  exact sx_e (sh_ireturn dc_Hall_make_86 rfl rfl (by decide) (by decide)) ⟨rfl, f5_0, f5_1, f5_2, f5_3, f5_4, f5_5, w5⟩
