/-! THE CLASS'S WORLD: its numbers are two families, K (ints, booleans, and references as numbers of threads or syncs, -1 for null) and L (doubles), with the rows of the reference where they are the same thing; 26 hasEnd, 27 takesBack, 28 after, 29 syncCount. Its objects lie at A j: 0 hall, 1 workers, 2 syncs, 3 order, 4 after, 10+t workers, 20+s syncs, 30+s their Waiters, 40+s the rows, 50+s the reads -/
def cw_on (x : Int32) : Option Nat := if x < 0 then none else some x.toNatClampNeg
theorem cw_on_n {u : Nat} (h : u < 2 ^ 31) : cw_on (nI u) = some u := by rw [cw_on, if_neg (nI_pos h), nI_clamp h]
theorem cw_on_0 : cw_on (-1) = none := by decide
def cw_rf (A : Nat → Nat) (b : Nat) (x : Int32) : Value := va_rf ((cw_on x).map fun u => A (b + u))
theorem cw_rf_n {A : Nat → Nat} {b u : Nat} {x : Int32} (h : x = nI u) (hu : u < 2 ^ 31) : cw_rf A b x = .ref (A (b + u)) := by rw [cw_rf, h, cw_on_n hu]; rfl
theorem cw_rf_0 {A : Nat → Nat} {b : Nat} {x : Int32} (h : x = -1) : cw_rf A b x = .null := by rw [cw_rf, h, cw_on_0]; rfl
def cw_hall (A : Nat → Nat) (K : sh_II) (L : sh_DD) : List Value := [.ref (A 1), .ref (A 2), .ref (A 3), .int (K 29 0), .double (L 11 0)]
def cw_ord (A : Nat → Nat) (K : sh_II) : List Value := [.ref (A 4), .int (K 24 0), .int (K 25 0)]
def cw_wk (A : Nat → Nat) (K : sh_II) (L : sh_DD) (t : Nat) : List Value := [.int (nI t), .double (L 3 t), .int (K 2 t), .int (K 4 t), cw_rf A 20 (K 5 t), .int (K 6 t), .int (K 26 t), .double (L 7 t), .double (L 8 t), .int (K 9 t), .int (K 10 t), .int (K 27 t)]
def cw_lock (A : Nat → Nat) (K : sh_II) (L : sh_DD) (s : Nat) : List Value := [.int (K 12 s), .ref (A (30 + s)), .double (L 20 s), .int (K 21 s), cw_rf A 10 (K 13 s), .int (K 14 s)]
def cw_sema (A : Nat → Nat) (K : sh_II) (L : sh_DD) (s : Nat) : List Value := [.int (K 12 s), .ref (A (30 + s)), .double (L 20 s), .int (K 21 s), .int (K 15 s)]
def cw_shar (A : Nat → Nat) (K : sh_II) (L : sh_DD) (s : Nat) : List Value := [.int (K 12 s), .ref (A (30 + s)), .double (L 20 s), .int (K 21 s), .ref (A (50 + s)), cw_rf A 10 (K 13 s), .int (K 14 s)]
def cw_cond (A : Nat → Nat) (K : sh_II) (L : sh_DD) (s : Nat) : List Value := [.int (K 12 s), .ref (A (30 + s)), .double (L 20 s), .int (K 21 s), cw_rf A 20 (K 16 s)]
def cw_wt (A : Nat → Nat) (K : sh_II) (s : Nat) : List Value := [.ref (A (40 + s)), .int (K 19 s)]
/-- the class of a sync, by its kind: 4 Lock, 5 Semaphore, 6 Latch, 7 Shared, 8 Condition, 0 none -/
def cw_cl (x : Int32) : Nat := if x = 0 ∨ x = 1 then 4 else if x = 2 ∨ x = 3 then 5 else if x = 4 then 6 else if x = 5 then 7 else if x = 6 then 8 else 0
def cw_sy (A : Nat → Nat) (K : sh_II) (L : sh_DD) (s : Nat) : Option sh_Ob :=
  if cw_cl (K 12 s) = 4 then some (false, 4, cw_lock A K L s) else if cw_cl (K 12 s) = 5 then some (false, 5, cw_sema A K L s) else if cw_cl (K 12 s) = 6 then some (false, 6, cw_sema A K L s)
  else if cw_cl (K 12 s) = 7 then some (false, 7, cw_shar A K L s) else if cw_cl (K 12 s) = 8 then some (false, 8, cw_cond A K L s) else none
def cw_ob (A : Nat → Nat) (K : sh_II) (L : sh_DD) (j : Nat) : Option sh_Ob :=
  if j = 0 then some (false, 0, cw_hall A K L) else if j = 1 then some (true, 4, sh_fa 6 (fun t => .ref (A (10 + t)))) else if j = 2 then some (true, 5, sh_fa 8 (fun s => if cw_cl (K 12 s) = 0 then .null else .ref (A (20 + s))))
  else if j = 3 then some (false, 3, cw_ord A K) else if j = 4 then some (true, 0, sh_fa 8 (fun i => .int (K 28 i))) else if j < 10 then none
  else if j < 16 then some (false, 1, cw_wk A K L (j - 10)) else if j < 20 then none else if j < 28 then cw_sy A K L (j - 20) else if j < 30 then none
  else if j < 38 then (if cw_cl (K 12 (j - 30)) = 0 then none else some (false, 2, cw_wt A K (j - 30))) else if j < 40 then none
  else if j < 48 then (if cw_cl (K 12 (j - 40)) = 0 then none else some (true, 4, sh_fa 6 (fun i => cw_rf A 10 (K 18 (6 * (j - 40) + i))))) else if j < 50 then none
  else if j < 58 then (if cw_cl (K 12 (j - 50)) = 7 then some (true, 0, sh_fa 6 (fun t => .int (K 17 (6 * (j - 50) + t)))) else none) else none
/-- the object that a number belongs to -/
def cw_wn (r c : Nat) : Nat :=
  if r = 2 ∨ r = 4 ∨ r = 5 ∨ r = 6 ∨ r = 9 ∨ r = 10 ∨ r = 26 ∨ r = 27 ∨ r = 3 ∨ r = 7 ∨ r = 8 then 10 + c else if r = 13 ∨ r = 14 ∨ r = 15 ∨ r = 16 ∨ r = 21 ∨ r = 20 then 20 + c else if r = 19 then 30 + c else if r = 18 then 40 + c / 6 else if r = 17 then 50 + c / 6
  else if r = 28 then 4 else if r = 24 ∨ r = 25 then 3 else if r = 29 ∨ r = 11 then 0 else 99
theorem cw_far {α : Type} {X : Nat → Nat → α} {r c r0 c0 : Nat} {v : α} (h : cw_wn r0 c0 ≠ cw_wn r c) : sh_u2 X r c v r0 c0 = X r0 c0 := if_neg (fun e => h (by rw [e.1, e.2]))
theorem cw_upI {A : Nat → Nat} {K : sh_II} {L : sh_DD} {r c j : Nat} {v : Int32} (h12 : r ≠ 12) (hj : j ≠ cw_wn r c) : cw_ob A (sh_u2 K r c v) L j = cw_ob A K L j := by
  have e12 : ∀ s, sh_u2 K r c v 12 s = K 12 s := fun s => sh_u2_row (Ne.symm h12) s
  have far : ∀ r0 c0, cw_wn r0 c0 = j → sh_u2 K r c v r0 c0 = K r0 c0 := fun r0 c0 e => cw_far (by rw [e]; exact hj)
  unfold cw_ob
  simp only [e12]
  by_cases h0 : j = 0
  · rw [if_pos h0, if_pos h0]; simp only [cw_hall, far 29 0 (by rw [h0]; rfl)]
  rw [if_neg h0, if_neg h0]
  by_cases h1 : j = 1
  · rw [if_pos h1, if_pos h1]
  rw [if_neg h1, if_neg h1]
  by_cases h2 : j = 2
  · rw [if_pos h2, if_pos h2]
  rw [if_neg h2, if_neg h2]
  by_cases h3 : j = 3
  · rw [if_pos h3, if_pos h3]; simp only [cw_ord, far 24 0 (by rw [h3]; rfl), far 25 0 (by rw [h3]; rfl)]
  rw [if_neg h3, if_neg h3]
  by_cases h4 : j = 4
  · rw [if_pos h4, if_pos h4, sh_fa_congr (fun i _ => by rw [far 28 i (by rw [h4]; rfl)])]
  rw [if_neg h4, if_neg h4]
  by_cases h5 : j < 10
  · rw [if_pos h5, if_pos h5]
  rw [if_neg h5, if_neg h5]
  by_cases h6 : j < 16
  · have q : ∀ r0, cw_wn r0 (j - 10) = 10 + (j - 10) → sh_u2 K r c v r0 (j - 10) = K r0 (j - 10) := fun r0 e => far r0 _ (by rw [e]; omega)
    rw [if_pos h6, if_pos h6]; simp only [cw_wk, q 2 rfl, q 4 rfl, q 5 rfl, q 6 rfl, q 26 rfl, q 9 rfl, q 10 rfl, q 27 rfl]
  rw [if_neg h6, if_neg h6]
  by_cases h7 : j < 20
  · rw [if_pos h7, if_pos h7]
  rw [if_neg h7, if_neg h7]
  by_cases h8 : j < 28
  · have q : ∀ r0, cw_wn r0 (j - 20) = 20 + (j - 20) → sh_u2 K r c v r0 (j - 20) = K r0 (j - 20) := fun r0 e => far r0 _ (by rw [e]; omega)
    rw [if_pos h8, if_pos h8]; simp only [cw_sy, cw_lock, cw_sema, cw_shar, cw_cond, e12, q 13 rfl, q 14 rfl, q 15 rfl, q 16 rfl, q 21 rfl]
  rw [if_neg h8, if_neg h8]
  by_cases h9 : j < 30
  · rw [if_pos h9, if_pos h9]
  rw [if_neg h9, if_neg h9]
  by_cases h10 : j < 38
  · rw [if_pos h10, if_pos h10]; simp only [cw_wt, far 19 (j - 30) (by show 30 + (j - 30) = j; omega)]
  rw [if_neg h10, if_neg h10]
  by_cases h11 : j < 40
  · rw [if_pos h11, if_pos h11]
  rw [if_neg h11, if_neg h11]
  by_cases h12 : j < 48
  · rw [if_pos h12, if_pos h12, sh_fa_congr (f := fun i => cw_rf A 10 (sh_u2 K r c v 18 (6 * (j - 40) + i))) (fun i hi => by rw [far 18 _ (by show 40 + (6 * (j - 40) + i) / 6 = j; omega)])]
  rw [if_neg h12, if_neg h12]
  by_cases h13 : j < 50
  · rw [if_pos h13, if_pos h13]
  rw [if_neg h13, if_neg h13]
  by_cases h14 : j < 58
  · rw [if_pos h14, if_pos h14, sh_fa_congr (f := fun t => Value.int (sh_u2 K r c v 17 (6 * (j - 50) + t))) (fun i hi => by rw [far 17 _ (by show 50 + (6 * (j - 50) + i) / 6 = j; omega)])]
  rw [if_neg h14, if_neg h14]
theorem cw_upD {A : Nat → Nat} {K : sh_II} {L : sh_DD} {r c j : Nat} {v : UInt64} (hj : j ≠ cw_wn r c) : cw_ob A K (sh_u2 L r c v) j = cw_ob A K L j := by
  have far : ∀ r0 c0, cw_wn r0 c0 = j → sh_u2 L r c v r0 c0 = L r0 c0 := fun r0 c0 e => cw_far (by rw [e]; exact hj)
  unfold cw_ob
  by_cases h0 : j = 0
  · rw [if_pos h0, if_pos h0]; simp only [cw_hall, far 11 0 (by rw [h0]; rfl)]
  rw [if_neg h0, if_neg h0]
  by_cases h6 : j < 16
  · have q : ∀ r0, cw_wn r0 (j - 10) = 10 + (j - 10) → 10 ≤ j → sh_u2 L r c v r0 (j - 10) = L r0 (j - 10) := fun r0 e h => far r0 _ (by rw [e]; omega)
    by_cases h5 : j < 10
    · simp only [h5, if_true]
    · simp only [cw_wk, q 3 rfl (by omega), q 7 rfl (by omega), q 8 rfl (by omega), h6, if_true]
  have h5 : ¬ j < 10 := by omega
  simp only [h6, if_false]
  by_cases h8 : j < 28
  · have q : 20 ≤ j → sh_u2 L r c v 20 (j - 20) = L 20 (j - 20) := fun h => far 20 _ (by show 20 + (j - 20) = j; omega)
    by_cases h7 : j < 20
    · simp only [h7, if_true]
    · simp only [cw_sy, cw_lock, cw_sema, cw_shar, cw_cond, q (by omega)]
  simp only [h8, if_false]
section CWO
variable {A : Nat → Nat} {K : sh_II} {L : sh_DD} {s t : Nat}
theorem cw_o0 : cw_ob A K L 0 = some (false, 0, cw_hall A K L) := rfl
theorem cw_o1 : cw_ob A K L 1 = some (true, 4, sh_fa 6 (fun t => .ref (A (10 + t)))) := rfl
theorem cw_o2 : cw_ob A K L 2 = some (true, 5, sh_fa 8 (fun s => if cw_cl (K 12 s) = 0 then .null else .ref (A (20 + s)))) := rfl
theorem cw_o3 : cw_ob A K L 3 = some (false, 3, cw_ord A K) := rfl
theorem cw_o4 : cw_ob A K L 4 = some (true, 0, sh_fa 8 (fun i => .int (K 28 i))) := rfl
theorem cw_ow (h : t < 6) : cw_ob A K L (10 + t) = some (false, 1, cw_wk A K L t) := by
  unfold cw_ob
  rw [if_neg (by omega), if_neg (by omega), if_neg (by omega), if_neg (by omega), if_neg (by omega), if_neg (by omega), if_pos (by omega), Nat.add_sub_cancel_left]
theorem cw_osy (h : s < 8) : cw_ob A K L (20 + s) = cw_sy A K L s := by
  unfold cw_ob
  rw [if_neg (by omega), if_neg (by omega), if_neg (by omega), if_neg (by omega), if_neg (by omega), if_neg (by omega), if_neg (by omega), if_neg (by omega), if_pos (by omega), Nat.add_sub_cancel_left]
theorem cw_ol (h : s < 8) (hk : cw_cl (K 12 s) = 4) : cw_ob A K L (20 + s) = some (false, 4, cw_lock A K L s) := by rw [cw_osy h, cw_sy, if_pos hk]
theorem cw_oe (h : s < 8) (hk : cw_cl (K 12 s) = 5) : cw_ob A K L (20 + s) = some (false, 5, cw_sema A K L s) := by rw [cw_osy h, cw_sy, if_neg (by omega), if_pos hk]
theorem cw_oa (h : s < 8) (hk : cw_cl (K 12 s) = 6) : cw_ob A K L (20 + s) = some (false, 6, cw_sema A K L s) := by rw [cw_osy h, cw_sy, if_neg (by omega), if_neg (by omega), if_pos hk]
theorem cw_oh (h : s < 8) (hk : cw_cl (K 12 s) = 7) : cw_ob A K L (20 + s) = some (false, 7, cw_shar A K L s) := by rw [cw_osy h, cw_sy, if_neg (by omega), if_neg (by omega), if_neg (by omega), if_pos hk]
theorem cw_oc (h : s < 8) (hk : cw_cl (K 12 s) = 8) : cw_ob A K L (20 + s) = some (false, 8, cw_cond A K L s) := by rw [cw_osy h, cw_sy, if_neg (by omega), if_neg (by omega), if_neg (by omega), if_neg (by omega), if_pos hk]
theorem cw_ot (h : s < 8) (hk : cw_cl (K 12 s) ≠ 0) : cw_ob A K L (30 + s) = some (false, 2, cw_wt A K s) := by
  unfold cw_ob
  rw [if_neg (by omega), if_neg (by omega), if_neg (by omega), if_neg (by omega), if_neg (by omega), if_neg (by omega), if_neg (by omega), if_neg (by omega), if_neg (by omega), if_neg (by omega), if_pos (by omega), Nat.add_sub_cancel_left, if_neg hk]
theorem cw_or (h : s < 8) (hk : cw_cl (K 12 s) ≠ 0) : cw_ob A K L (40 + s) = some (true, 4, sh_fa 6 (fun i => cw_rf A 10 (K 18 (6 * s + i)))) := by
  unfold cw_ob
  rw [if_neg (by omega), if_neg (by omega), if_neg (by omega), if_neg (by omega), if_neg (by omega), if_neg (by omega), if_neg (by omega), if_neg (by omega), if_neg (by omega), if_neg (by omega), if_neg (by omega), if_neg (by omega), if_pos (by omega), Nat.add_sub_cancel_left, if_neg hk]
theorem cw_od (h : s < 8) (hk : cw_cl (K 12 s) = 7) : cw_ob A K L (50 + s) = some (true, 0, sh_fa 6 (fun t => .int (K 17 (6 * s + t)))) := by
  unfold cw_ob
  rw [if_neg (by omega), if_neg (by omega), if_neg (by omega), if_neg (by omega), if_neg (by omega), if_neg (by omega), if_neg (by omega), if_neg (by omega), if_neg (by omega), if_neg (by omega), if_neg (by omega), if_neg (by omega), if_neg (by omega), if_neg (by omega), if_pos (by omega), Nat.add_sub_cancel_left, if_pos hk]
end CWO
/-- the heap holds the class with these numbers -/
def sh_CW (A : Nat → Nat) (K : sh_II) (L : sh_DD) (h : sh_Hp) : Prop :=
  (∀ (j : Nat) (o : sh_Ob), cw_ob A K L j = some o → h (A j) = some o) ∧ ∀ i j : Nat, (cw_ob A K L i).isSome = true → (cw_ob A K L j).isSome = true → A i = A j → i = j
/-- nothing but the class has moved -/
def sh_Gr (A : Nat → Nat) (h0 h : sh_Hp) : Prop := ∀ q : Nat, (∀ j, j < 60 → q ≠ A j) → h q = h0 q
theorem sh_Gr.rf {A : Nat → Nat} {h : sh_Hp} : sh_Gr A h h := fun _ _ => rfl
theorem sh_Gr.tr {A : Nat → Nat} {h0 h1 h2 : sh_Hp} (a : sh_Gr A h0 h1) (b : sh_Gr A h1 h2) : sh_Gr A h0 h2 := fun q x => (b q x).trans (a q x)
theorem cw_lt {A : Nat → Nat} {K : sh_II} {L : sh_DD} {j : Nat} {o : sh_Ob} (h : cw_ob A K L j = some o) : j < 60 := by
  by_cases hj : j < 60
  · exact hj
  · unfold cw_ob at h
    rw [if_neg (by omega), if_neg (by omega), if_neg (by omega), if_neg (by omega), if_neg (by omega), if_neg (by omega), if_neg (by omega), if_neg (by omega), if_neg (by omega), if_neg (by omega), if_neg (by omega), if_neg (by omega), if_neg (by omega), if_neg (by omega), if_neg (by omega)] at h
    cases h
theorem sh_CW.put {A : Nat → Nat} {K K' : sh_II} {L L' : sh_DD} {h : sh_Hp} {j : Nat} {o o' : sh_Ob} (hw : sh_CW A K L h) (ho : cw_ob A K L j = some o) (ho' : cw_ob A K' L' j = some o') (hot : ∀ i, i ≠ j → cw_ob A K' L' i = cw_ob A K L i) : sh_CW A K' L' (sh_up h (A j) o') := by
  have hs : ∀ i, (cw_ob A K' L' i).isSome = (cw_ob A K L i).isSome := fun i => by
    by_cases e : i = j
    · subst e; rw [ho, ho']; rfl
    · rw [hot i e]
  refine ⟨fun i x hx => ?_, fun i k a b e => hw.2 i k (by rw [← hs]; exact a) (by rw [← hs]; exact b) e⟩
  by_cases e : i = j
  · subst e
    cases ho'.symm.trans hx
    exact sh_up_eq _ _ _
  · have hx' := hx
    rw [hot i e] at hx
    rw [sh_up_ne (fun q => e (hw.2 i j (by rw [hx]; rfl) (by rw [ho]; rfl) q))]
    exact hw.1 i x hx
theorem sh_Gr.put {A : Nat → Nat} {h0 h : sh_Hp} {j : Nat} {o : sh_Ob} (g : sh_Gr A h0 h) (hj : j < 60) : sh_Gr A h0 (sh_up h (A j) o) := fun q x => (sh_up_ne (x j hj)).trans (g q x)
def cw_r (r : Option Value ⊕ Nat) (n : Nat) (h : sh_Hp) : sh_Rs := match r with
  | .inl v => .inl (v, (n, h))
  | .inr k => .inr (k, h)
/-- the walk over the class's numbers -/
def sh_cW (A : Nat → Nat) (d : sh_Md) (f : sh_AF) (K : sh_II) (L : sh_DD) (cs ss : Nat) (r : Option Value ⊕ Nat) (K' : sh_II) (L' : sh_DD) : Prop :=
  ∀ (n : Nat) (h0 h : sh_Hp), sh_CW A K L h → sh_Gr A h0 h → ∃ h', sh_CW A K' L' h' ∧ sh_Gr A h0 h' ∧ sh_V d f (n, h) cs ss (sh_E d (cw_r r n h'))
/-- a method of the class -/
def sh_cM (A : Nat → Nat) (d : sh_Md) (As : List Value) (K : sh_II) (L : sh_DD) (r : Option Value ⊕ Nat) (K' : sh_II) (L' : sh_DD) : Prop := sh_cW A d (0, lv_args 0 As, []) K L 0 0 r K' L'
section CWR
variable {A : Nat → Nat} {d : sh_Md} {pc : Nat} {lv : List (Nat × Value)} {st : List Value} {K K' K1 : sh_II} {L L' L1 : sh_DD} {cs ss : Nat} {r : Option Value ⊕ Nat}
theorem sh_cp {f f' : sh_AF} (H : ∀ (w : sh_Wd) (Z : sh_Zt), sh_V d f' w cs ss Z → sh_V d f w cs ss Z) (k : sh_cW A d f' K L cs ss r K' L') : sh_cW A d f K L cs ss r K' L' := by
  intro n h0 h hm hf
  obtain ⟨h', a, b, c⟩ := k n h0 h hm hf
  exact ⟨h', a, b, H _ _ c⟩
theorem sh_ce {v : Option Value} (H : ∀ w : sh_Wd, sh_V d (pc, lv, st) w cs ss (sh_E d (.inl (v, w)))) : sh_cW A d (pc, lv, st) K L cs ss (.inl v) K L := fun n h0 h hm hf => ⟨h, hm, hf, H _⟩
theorem sh_ct {k : Nat} (H : ∀ w : sh_Wd, sh_V d (pc, lv, st) w cs ss (sh_E d (.inr (k, w.2)))) : sh_cW A d (pc, lv, st) K L cs ss (.inr k) K L := fun n h0 h hm hf => ⟨h, hm, hf, H (n, h)⟩
theorem sh_ctv {x y : Value} (e : x = y) (k : sh_cW A d (pc, lv, y :: st) K L cs ss r K' L') : sh_cW A d (pc, lv, x :: st) K L cs ss r K' L' := by rw [e]; exact k
theorem sh_cti {x y : Int32} (e : x = y) (k : sh_cW A d (pc, lv, .int y :: st) K L cs ss r K' L') : sh_cW A d (pc, lv, .int x :: st) K L cs ss r K' L' := by rw [e]; exact k
theorem sh_ctd {x y : UInt64} (e : x = y) (k : sh_cW A d (pc, lv, .double y :: st) K L cs ss r K' L') : sh_cW A d (pc, lv, .double x :: st) K L cs ss r K' L' := by rw [e]; exact k
theorem sh_clv {lv' : List (Nat × Value)} (ks : List Nat) (h : lv_pick lv ks = lv') (k : sh_cW A d (pc, lv', st) K L cs ss r K' L') : sh_cW A d (pc, lv, st) K L cs ss r K' L' := sh_cp (fun w Z k => sh_lvsub ks h k) k
/-- a field is read -/
theorem sh_cget (j k : Nat) {index ci : Nat} {fs : List Value} {rr : vw_C} {x : Value} {ow nm ds : String} (hd : decode d.2.1 pc = .ok (.getfield index, 3)) (ho : cw_ob A K L j = some (false, ci, fs)) (hc : vwCl[ci]? = some rr) (hk : k < rr.2.2) (hf : sh_FL d.1.cls index ow nm ds) (h1 : (rr.2.1 k).1 = ow) (h2 : (rr.2.1 k).2.1 = nm) (h3 : (rr.2.1 k).2.2.1 = ds) (hx : fs[k]? = some x) (kk : sh_cW A d (pc + 3, lv, x :: st) K L cs ss r K' L') : sh_cW A d (pc, lv, .ref (A j) :: st) K L cs ss r K' L' := by
  subst h1; subst h2; subst h3
  intro n h0 h hm hf0
  obtain ⟨h', a, b, c⟩ := kk n h0 h hm hf0
  exact ⟨h', a, b, sh_get (k := k) (r := rr) hd (hm.1 j _ ho) hc hk hf hx c⟩
/-- a field is written: the world of K1, L1 differs in it alone -/
theorem sh_cput (j k : Nat) {index ci : Nat} {fs : List Value} {rr : vw_C} {x : Value} {ty : FieldType} {ow nm ds : String} (hd : decode d.2.1 pc = .ok (.putfield index, 3)) (ho : cw_ob A K L j = some (false, ci, fs)) (hc : vwCl[ci]? = some rr) (hk : k < rr.2.2) (hf : sh_FL d.1.cls index ow nm ds) (h1 : (rr.2.1 k).1 = ow) (h2 : (rr.2.1 k).2.1 = nm) (h3 : (rr.2.1 k).2.2.1 = ds) (hfin : (rr.2.1 k).2.2.2 = false) (hty : parseFieldDescriptor ds = some ty) (hn : narrow ty x = x) (hft : fits ty x = true)
    (ho' : cw_ob A K1 L1 j = some (false, ci, fs.set k x)) (hot : ∀ i, i ≠ j → cw_ob A K1 L1 i = cw_ob A K L i) (kk : sh_cW A d (pc + 3, lv, st) K1 L1 cs ss r K' L') : sh_cW A d (pc, lv, x :: .ref (A j) :: st) K L cs ss r K' L' := by
  subst h1; subst h2; subst h3
  intro n h0 h hm hf0
  obtain ⟨h', a, b, c⟩ := kk n h0 _ (hm.put ho ho' hot) (hf0.put (cw_lt ho))
  exact ⟨h', a, b, sh_put (k := k) (r := rr) hd (hm.1 j _ ho) hc hk hf hfin hty hn hft c⟩
theorem sh_ciald (j : Nat) {l k : Nat} {g : Nat → Value} {y : Int32} (hd : decode d.2.1 pc = .ok (.iaload, 1)) (ho : cw_ob A K L j = some (true, 0, sh_fa l g)) (hy : y = nI k) (hk : k < l) (hl : l ≤ 64) (kk : sh_cW A d (pc + 1, lv, g k :: st) K L cs ss r K' L') : sh_cW A d (pc, lv, .int y :: .ref (A j) :: st) K L cs ss r K' L' := by
  intro n h0 h hm hf
  obtain ⟨h', a, b, c⟩ := kk n h0 h hm hf
  obtain ⟨e1, e2⟩ := sh_nix (k := k) (by omega)
  exact ⟨h', a, b, sh_iald hd (hm.1 j _ ho) rfl (by rw [hy]; exact e1) (by rw [hy, e2]; exact sh_fa_get g hk) c⟩
theorem sh_caald (j : Nat) {l k ti : Nat} {C : String} {g : Nat → Value} {y : Int32} (hd : decode d.2.1 pc = .ok (.aaload, 1)) (ho : cw_ob A K L j = some (true, ti, sh_fa l g)) (ht : sh_ats[ti]? = some (.object C)) (hy : y = nI k) (hk : k < l) (hl : l ≤ 64) (kk : sh_cW A d (pc + 1, lv, g k :: st) K L cs ss r K' L') : sh_cW A d (pc, lv, .int y :: .ref (A j) :: st) K L cs ss r K' L' := by
  intro n h0 h hm hf
  obtain ⟨h', a, b, c⟩ := kk n h0 h hm hf
  obtain ⟨e1, e2⟩ := sh_nix (k := k) (by omega)
  exact ⟨h', a, b, sh_aald hd (hm.1 j _ ho) ht (by rw [hy]; exact e1) (by rw [hy, e2]; exact sh_fa_get g hk) c⟩
theorem sh_calen (j : Nat) {l ti : Nat} {ty : FieldType} {g : Nat → Value} (hd : decode d.2.1 pc = .ok (.arraylength, 1)) (ho : cw_ob A K L j = some (true, ti, sh_fa l g)) (ht : sh_ats[ti]? = some ty) (kk : sh_cW A d (pc + 1, lv, .int (nI l) :: st) K L cs ss r K' L') : sh_cW A d (pc, lv, .ref (A j) :: st) K L cs ss r K' L' := by
  intro n h0 h hm hf
  obtain ⟨h', a, b, c⟩ := kk n h0 h hm hf
  refine ⟨h', a, b, sh_alen hd (hm.1 j _ ho) ht ?_⟩
  rw [sh_fa_len]
  exact c
theorem sh_ciast (j : Nat) {l k : Nat} {g : Nat → Value} {y x : Int32} (hd : decode d.2.1 pc = .ok (.iastore, 1)) (ho : cw_ob A K L j = some (true, 0, sh_fa l g)) (hy : y = nI k) (hk : k < l) (hl : l ≤ 64) (ho' : cw_ob A K1 L1 j = some (true, 0, sh_fa l (fun i => if i = k then .int x else g i))) (hot : ∀ i, i ≠ j → cw_ob A K1 L1 i = cw_ob A K L i) (kk : sh_cW A d (pc + 1, lv, st) K1 L1 cs ss r K' L') : sh_cW A d (pc, lv, .int x :: .int y :: .ref (A j) :: st) K L cs ss r K' L' := by
  intro n h0 h hm hf
  obtain ⟨e1, e2⟩ := sh_nix (k := k) (by omega)
  obtain ⟨h', a, b, c⟩ := kk n h0 _ (hm.put ho ho' hot) (hf.put (cw_lt ho))
  refine ⟨h', a, b, sh_iast hd (hm.1 j _ ho) rfl (by rw [hy]; exact e1) (by rw [hy, e2]; exact sh_fa_get g hk) ?_⟩
  rw [hy, e2, sh_fa_set]
  exact c
theorem sh_caast (j u : Nat) {l k ti ci : Nat} {fs : List Value} {rr : vw_C} {C : String} {g : Nat → Value} {y : Int32} (hd : decode d.2.1 pc = .ok (.aastore, 1)) (ho : cw_ob A K L j = some (true, ti, sh_fa l g)) (ht : sh_ats[ti]? = some (.object C)) (hy : y = nI k) (hk : k < l) (hl : l ≤ 64) (hu : cw_ob A K L u = some (false, ci, fs)) (hc : vwCl[ci]? = some rr) (hcast : rr.1 = C ∨ Cond.castable rr.1 C ∈ sh_ws) (ho' : cw_ob A K1 L1 j = some (true, ti, sh_fa l (fun i => if i = k then .ref (A u) else g i))) (hot : ∀ i, i ≠ j → cw_ob A K1 L1 i = cw_ob A K L i) (kk : sh_cW A d (pc + 1, lv, st) K1 L1 cs ss r K' L') : sh_cW A d (pc, lv, .ref (A u) :: .int y :: .ref (A j) :: st) K L cs ss r K' L' := by
  intro n h0 h hm hf
  obtain ⟨e1, e2⟩ := sh_nix (k := k) (by omega)
  obtain ⟨h', a, b, c⟩ := kk n h0 _ (hm.put ho ho' hot) (hf.put (cw_lt ho))
  refine ⟨h', a, b, sh_aast hd (hm.1 j _ ho) ht (by rw [hy]; exact e1) (by rw [hy, e2]; exact sh_fa_get g hk) (hm.1 u _ hu) hc hcast ?_⟩
  rw [hy, e2, sh_fa_set]
  exact c
/-- calls of methods of the class -/
theorem sh_ccall {dy : sh_Md} {stk As : List Value} {v1 : Option Value} (hc : ∀ w : sh_Wd, (∀ (j : Nat) (o : sh_Ob), cw_ob A K L j = some o → w.2 (A j) = some o) → sh_Call d dy pc stk st w As) (hM : sh_cM A dy As K L (.inl v1) K1 L1) (hr : sh_Rm d dy st cs ss) (kk : sh_cW A d (pc + 3, lv, v1.toList ++ st) K1 L1 (cs + dy.2.2.2.2.1.cells) (ss + dy.2.2.2.2.1.slots) r K' L') : sh_cW A d (pc, lv, stk) K L cs ss r K' L' := by
  intro n h0 h hm hf
  obtain ⟨h1, a1, b1, c1⟩ := hM n h0 h hm hf
  obtain ⟨h', a, b, c⟩ := kk n h0 h1 a1 b1
  exact ⟨h', a, b, sh_callR (hc (n, h) hm.1) c1 hr c⟩
theorem sh_ccallT {dy : sh_Md} {stk As : List Value} {k : Nat} (hc : ∀ w : sh_Wd, (∀ (j : Nat) (o : sh_Ob), cw_ob A K L j = some o → w.2 (A j) = some o) → sh_Call d dy pc stk st w As) (hM : sh_cM A dy As K L (.inr k) K1 L1) (hr : sh_Rm d dy st cs ss) (hno : d.2.2.2.2.2 = []) : sh_cW A d (pc, lv, stk) K L cs ss (.inr k) K1 L1 := by
  intro n h0 h hm hf
  obtain ⟨h1, a1, b1, c1⟩ := hM n h0 h hm hf
  exact ⟨h1, a1, b1, sh_callT (hc (n, h) hm.1) c1 hr hno⟩
/-- instanceof and checkcast of an object of the class -/
theorem sh_cinstY (j : Nat) {index ci : Nat} {nm : String} {fs : List Value} {rr : vw_C} (hd : decode d.2.1 pc = .ok (.instanceof index, 3)) (hw : Cond.classLink d.1.cls index nm ∈ sh_ws) (ho : cw_ob A K L j = some (false, ci, fs)) (hc : vwCl[ci]? = some rr) (hcast : rr.1 = nm ∨ Cond.castable rr.1 nm ∈ sh_ws) (kk : sh_cW A d (pc + 3, lv, .int 1 :: st) K L cs ss r K' L') : sh_cW A d (pc, lv, .ref (A j) :: st) K L cs ss r K' L' := by
  intro n h0 h hm hf
  obtain ⟨h', a, b, c⟩ := kk n h0 h hm hf
  exact ⟨h', a, b, sh_instY hd hw (hm.1 j _ ho) hc hcast c⟩
theorem sh_ccastY (j : Nat) {index ci : Nat} {nm : String} {fs : List Value} {rr : vw_C} (hd : decode d.2.1 pc = .ok (.checkcast index, 3)) (hw : Cond.classLink d.1.cls index nm ∈ sh_ws) (ho : cw_ob A K L j = some (false, ci, fs)) (hc : vwCl[ci]? = some rr) (hcast : rr.1 = nm ∨ Cond.castable rr.1 nm ∈ sh_ws) (kk : sh_cW A d (pc + 3, lv, .ref (A j) :: st) K L cs ss r K' L') : sh_cW A d (pc, lv, .ref (A j) :: st) K L cs ss r K' L' := by
  intro n h0 h hm hf
  obtain ⟨h', a, b, c⟩ := kk n h0 h hm hf
  exact ⟨h', a, b, sh_castY hd hw (hm.1 j _ ho) hc hcast c⟩
theorem sh_cinstNo (j : Nat) {index ci : Nat} {nm : String} {fs : List Value} {rr : vw_C} (hd : decode d.2.1 pc = .ok (.instanceof index, 3)) (hw : Cond.classLink d.1.cls index nm ∈ sh_ws) (ho : cw_ob A K L j = some (false, ci, fs)) (hc : vwCl[ci]? = some rr) (hno : Cond.not (.castable rr.1 nm) ∈ sh_ws) (kk : sh_cW A d (pc + 3, lv, .int 0 :: st) K L cs ss r K' L') : sh_cW A d (pc, lv, .ref (A j) :: st) K L cs ss r K' L' := by
  intro n h0 h hm hf
  obtain ⟨h', a, b, c⟩ := kk n h0 h hm hf
  exact ⟨h', a, b, sh_instNo hd hw (hm.1 j _ ho) hc hno c⟩
/-- two references of the class are compared -/
theorem sh_cacmp_eq {i j tgt : Nat} {off : Int} (hd : decode d.2.1 pc = .ok (.if_acmp .eq off, 3)) (ht : (pc : Int) + off = (tgt : Int)) (hi : (cw_ob A K L i).isSome = true) (hj : (cw_ob A K L j).isSome = true) (kt : i = j → sh_cW A d (tgt, lv, st) K L cs ss r K' L') (kf : ¬ i = j → sh_cW A d (pc + 3, lv, st) K L cs ss r K' L') : sh_cW A d (pc, lv, .ref (A j) :: .ref (A i) :: st) K L cs ss r K' L' := by
  intro n h0 h hm hf
  by_cases e : i = j
  · obtain ⟨h', a, b, c⟩ := kt e n h0 h hm hf
    exact ⟨h', a, b, sh_acmp_eq (rx := some (A i)) (ry := some (A j)) hd ht (fun _ => c) (fun q => absurd (by rw [e]) q)⟩
  · obtain ⟨h', a, b, c⟩ := kf e n h0 h hm hf
    exact ⟨h', a, b, sh_acmp_eq (rx := some (A i)) (ry := some (A j)) hd ht (fun q => absurd (hm.2 i j hi hj (Option.some.inj q)) e) (fun _ => c)⟩
theorem sh_cacmp_ne {i j tgt : Nat} {off : Int} (hd : decode d.2.1 pc = .ok (.if_acmp .ne off, 3)) (ht : (pc : Int) + off = (tgt : Int)) (hi : (cw_ob A K L i).isSome = true) (hj : (cw_ob A K L j).isSome = true) (kt : ¬ i = j → sh_cW A d (tgt, lv, st) K L cs ss r K' L') (kf : i = j → sh_cW A d (pc + 3, lv, st) K L cs ss r K' L') : sh_cW A d (pc, lv, .ref (A j) :: .ref (A i) :: st) K L cs ss r K' L' := by
  intro n h0 h hm hf
  by_cases e : i = j
  · obtain ⟨h', a, b, c⟩ := kf e n h0 h hm hf
    exact ⟨h', a, b, sh_acmp_ne (rx := some (A i)) (ry := some (A j)) hd ht (fun q => absurd (by rw [e]) q) (fun _ => c)⟩
  · obtain ⟨h', a, b, c⟩ := kt e n h0 h hm hf
    exact ⟨h', a, b, sh_acmp_ne (rx := some (A i)) (ry := some (A j)) hd ht (fun _ => c) (fun q => absurd (hm.2 i j hi hj (Option.some.inj q)) e)⟩
end CWR
