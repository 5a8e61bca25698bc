/-! THE REFERENCE'S WORLD: its numbers are two families, I (ints and booleans) and D (doubles), by the field's number and the place; a field of its own is place 0 -/
def sh_fa (n : Nat) (f : Nat → Value) : List Value := (List.range n).map f
theorem sh_fa_len (n : Nat) (f : Nat → Value) : (sh_fa n f).length = n := by simp [sh_fa]
theorem sh_fa_get {n k : Nat} (f : Nat → Value) (h : k < n) : (sh_fa n f)[k]? = some (f k) := by simp [sh_fa, h]
theorem sh_fa_set (n k : Nat) (f : Nat → Value) (v : Value) : (sh_fa n f).set k v = sh_fa n (fun j => if j = k then v else f j) := by
  apply List.ext_getElem?
  intro i
  by_cases hi : i < n
  · by_cases hik : k = i
    · subst hik
      rw [List.getElem?_set_self (by rw [sh_fa_len]; exact hi), sh_fa_get _ hi, if_pos rfl]
    · rw [List.getElem?_set_ne hik, sh_fa_get _ hi, sh_fa_get _ hi, if_neg (fun e => hik e.symm)]
  · rw [List.getElem?_eq_none (by rw [List.length_set, sh_fa_len]; omega), List.getElem?_eq_none (by rw [sh_fa_len]; omega)]
theorem sh_fa_congr {n : Nat} {f g : Nat → Value} (h : ∀ j, j < n → f j = g j) : sh_fa n f = sh_fa n g := by
  apply List.map_congr_left
  intro j hj
  exact h j (List.mem_range.mp hj)
def sh_u2 {α : Type} (I : Nat → Nat → α) (i k : Nat) (v : α) : Nat → Nat → α := fun a b => if a = i ∧ b = k then v else I a b
theorem sh_u2_eq {α : Type} (I : Nat → Nat → α) (i k : Nat) (v : α) : sh_u2 I i k v i k = v := if_pos ⟨rfl, rfl⟩
theorem sh_u2_row {α : Type} {I : Nat → Nat → α} {i k a : Nat} {v : α} (h : a ≠ i) (b : Nat) : sh_u2 I i k v a b = I a b := if_neg (fun q => h q.1)
theorem sh_u2_col {α : Type} {I : Nat → Nat → α} {i k b : Nat} {v : α} (h : b ≠ k) (a : Nat) : sh_u2 I i k v a b = I a b := if_neg (fun q => h q.2)
theorem sh_u2_if {α : Type} (I : Nat → Nat → α) (i k : Nat) (v : α) (b : Nat) : sh_u2 I i k v i b = if b = k then v else I i b := by
  by_cases h : b = k <;> simp [sh_u2, h]
abbrev sh_II : Type := Nat → Nat → Int32
abbrev sh_DD : Type := Nat → Nat → UInt64
/-- the arrays: type (0 int, 2 double, 3 boolean) and length, by the field's number -/
def sh_ml : List (Nat × Nat × Nat) := [(1, 3, 6), (2, 3, 6), (3, 2, 6), (4, 0, 6), (5, 0, 6), (6, 0, 6), (7, 2, 6), (8, 2, 6), (9, 0, 6), (10, 0, 6), (12, 0, 8), (13, 0, 8), (14, 0, 8), (15, 0, 8), (16, 0, 8), (17, 0, 48), (18, 0, 48), (19, 0, 8), (20, 2, 8), (21, 0, 8), (22, 3, 64), (23, 3, 8)]
def sh_mo (A : Nat → Nat) (I : sh_II) (D : sh_DD) : List Value := [.int (I 0 0), .ref (A 1), .ref (A 2), .ref (A 3), .ref (A 4), .ref (A 5), .ref (A 6), .ref (A 7), .ref (A 8), .ref (A 9), .ref (A 10), .double (D 11 0), .ref (A 12), .ref (A 13), .ref (A 14), .ref (A 15), .ref (A 16), .ref (A 17), .ref (A 18), .ref (A 19), .ref (A 20), .ref (A 21), .ref (A 22), .ref (A 23), .int (I 24 0), .int (I 25 0)]
def sh_mv (ty : Nat) (I : sh_II) (D : sh_DD) (i : Nat) : Nat → Value := fun j => if ty = 2 then .double (D i j) else .int (I i j)
/-- the heap holds the reference with these numbers; mq its address, A its arrays' -/
def sh_MW (mq : Nat) (A : Nat → Nat) (I : sh_II) (D : sh_DD) (h : sh_Hp) : Prop :=
  h mq = some (false, 9, sh_mo A I D) ∧ (∀ x ∈ sh_ml, h (A x.1) = some (true, x.2.1, sh_fa x.2.2 (sh_mv x.2.1 I D x.1))) ∧ (∀ x ∈ sh_ml, ∀ y ∈ sh_ml, A x.1 = A y.1 → x.1 = y.1) ∧ (∀ x ∈ sh_ml, A x.1 ≠ mq) ∧ ∀ x ∈ sh_ml, x.2.1 = 3 → ∀ j, j < x.2.2 → I x.1 j = 0 ∨ I x.1 j = 1
/-- nothing but the reference has moved -/
def sh_Fr (mq : Nat) (A : Nat → Nat) (h0 h : sh_Hp) : Prop := ∀ q : Nat, q ≠ mq → (∀ x ∈ sh_ml, q ≠ A x.1) → h q = h0 q
theorem sh_Fr.rf {mq : Nat} {A : Nat → Nat} {h : sh_Hp} : sh_Fr mq A h h := fun _ _ _ => rfl
theorem sh_Fr.tr {mq : Nat} {A : Nat → Nat} {h0 h1 h2 : sh_Hp} (a : sh_Fr mq A h0 h1) (b : sh_Fr mq A h1 h2) : sh_Fr mq A h0 h2 := fun q x y => (b q x y).trans (a q x y)
/-- the walk over the reference's numbers: from I, D to I', D' with the answer v -/
def sh_mW (mq : Nat) (A : Nat → Nat) (d : sh_Md) (f : sh_AF) (I : sh_II) (D : sh_DD) (cs ss : Nat) (v : Option Value) (I' : sh_II) (D' : sh_DD) : Prop :=
  ∀ (n : Nat) (h0 h : sh_Hp), sh_MW mq A I D h → sh_Fr mq A h0 h → ∃ h', sh_MW mq A I' D' h' ∧ sh_Fr mq A h0 h' ∧ sh_V d f (n, h) cs ss (sh_E d (.inl (v, (n, h'))))
/-- a method of the reference -/
def sh_mM (mq : Nat) (A : Nat → Nat) (d : sh_Md) (As : List Value) (I : sh_II) (D : sh_DD) (v : Option Value) (I' : sh_II) (D' : sh_DD) : Prop := sh_mW mq A d (0, lv_args 0 As, []) I D 0 0 v I' D'
section SHO
variable {mq : Nat} {A : Nat → Nat} {d : sh_Md} {pc : Nat} {lv : List (Nat × Value)} {st : List Value} {I I' : sh_II} {D D' : sh_DD} {cs ss : Nat} {v : Option Value}
theorem sh_mp {f f' : sh_AF} (H : ∀ (w : sh_Wd) (Z : sh_Zt), sh_V d f' w cs ss Z → sh_V d f w cs ss Z) (k : sh_mW mq A d f' I D cs ss v I' D') : sh_mW mq A d f I D cs ss v I' D' := by
  intro n h0 h hm hf
  obtain ⟨h', a, b, c⟩ := k n h0 h hm hf
  exact ⟨h', a, b, H _ _ c⟩
theorem sh_me (H : ∀ w : sh_Wd, sh_V d (pc, lv, st) w cs ss (sh_E d (.inl (v, w)))) : sh_mW mq A d (pc, lv, st) I D cs ss v I D := fun n h0 h hm hf => ⟨h, hm, hf, H _⟩
theorem sh_mget {index : Nat} (k : Nat) {x : Value} {ow nm ds : String} (hd : decode d.2.1 pc = .ok (.getfield index, 3)) (hk : k < 26) (hf : sh_FL d.1.cls index ow nm ds) (h1 : (fx_Mod k).1 = ow) (h2 : (fx_Mod k).2.1 = nm) (h3 : (fx_Mod k).2.2.1 = ds) (hx : (sh_mo A I D)[k]? = some x) (kk : sh_mW mq A d (pc + 3, lv, x :: st) I D cs ss v I' D') : sh_mW mq A d (pc, lv, .ref mq :: st) I D cs ss v I' D' := by
  subst h1; subst h2; subst h3
  intro n h0 h hm hf0
  obtain ⟨h', a, b, c⟩ := kk n h0 h hm hf0
  exact ⟨h', a, b, sh_get (k := k) (r := (rn_Mod, fx_Mod, 26)) hd hm.1 rfl hk hf hx c⟩
theorem sh_MW.low {mq : Nat} {A : Nat → Nat} {I : sh_II} {D : sh_DD} {h : sh_Hp} (hm : sh_MW mq A I D h) {x : Nat × Nat × Nat} (hx : x ∈ sh_ml) : h (A x.1) = some (true, x.2.1, sh_fa x.2.2 (sh_mv x.2.1 I D x.1)) := hm.2.1 x hx
theorem sh_ints (i l : Nat) (ty : Nat) (I : sh_II) (D : sh_DD) (k : Nat) (h : k < l) (hty : ty ≠ 2) : (sh_fa l (sh_mv ty I D i))[k]? = some (.int (I i k)) := by
  rw [sh_fa_get _ h]
  simp [sh_mv, hty]
theorem sh_dbls (i l : Nat) (I : sh_II) (D : sh_DD) (k : Nat) (h : k < l) : (sh_fa l (sh_mv 2 I D i))[k]? = some (.double (D i k)) := by
  rw [sh_fa_get _ h]
  simp [sh_mv]
theorem sh_nix {k : Nat} (h : k < 2 ^ 31) : ¬ nI k < 0 ∧ (nI k).toNatClampNeg = k := ⟨nI_pos h, nI_clamp h⟩
theorem sh_miald (i : Nat) {l k : Nat} {y : Int32} (hd : decode d.2.1 pc = .ok (.iaload, 1)) (hi : (i, 0, l) ∈ sh_ml) (hy : y = nI k) (hk : k < l) (hl : l ≤ 64) (kk : sh_mW mq A d (pc + 1, lv, .int (I i k) :: st) I D cs ss v I' D') : sh_mW mq A d (pc, lv, .int y :: .ref (A i) :: st) I D cs ss v I' D' := by
  intro n h0 h hm hf
  obtain ⟨h', a, b, c⟩ := kk n h0 h hm hf
  obtain ⟨e1, e2⟩ := sh_nix (k := k) (by omega)
  exact ⟨h', a, b, sh_iald hd (hm.low hi) rfl (by rw [hy]; exact e1) (by rw [hy, e2]; exact sh_ints i l 0 I D k hk (by decide)) c⟩
theorem sh_mzald (i : Nat) {l k : Nat} {y : Int32} (hd : decode d.2.1 pc = .ok (.baload, 1)) (hi : (i, 3, l) ∈ sh_ml) (hy : y = nI k) (hk : k < l) (hl : l ≤ 64) (kk : sh_mW mq A d (pc + 1, lv, .int (I i k) :: st) I D cs ss v I' D') : sh_mW mq A d (pc, lv, .int y :: .ref (A i) :: st) I D cs ss v I' D' := by
  intro n h0 h hm hf
  obtain ⟨h', a, b, c⟩ := kk n h0 h hm hf
  obtain ⟨e1, e2⟩ := sh_nix (k := k) (by omega)
  exact ⟨h', a, b, sh_zald hd (hm.low hi) rfl (by rw [hy]; exact e1) (by rw [hy, e2]; exact sh_ints i l 3 I D k hk (by decide)) c⟩
theorem sh_mdald (i : Nat) {l k : Nat} {y : Int32} (hd : decode d.2.1 pc = .ok (.daload, 1)) (hi : (i, 2, l) ∈ sh_ml) (hy : y = nI k) (hk : k < l) (hl : l ≤ 64) (kk : sh_mW mq A d (pc + 1, lv, .double (D i k) :: st) I D cs ss v I' D') : sh_mW mq A d (pc, lv, .int y :: .ref (A i) :: st) I D cs ss v I' D' := by
  intro n h0 h hm hf
  obtain ⟨h', a, b, c⟩ := kk n h0 h hm hf
  obtain ⟨e1, e2⟩ := sh_nix (k := k) (by omega)
  exact ⟨h', a, b, sh_dald hd (hm.low hi) rfl (by rw [hy]; exact e1) (by rw [hy, e2]; exact sh_dbls i l I D k hk) c⟩
/-- an array's place is written -/
theorem sh_MW.set {h : sh_Hp} (hm : sh_MW mq A I D h) {i ty l k : Nat} (hi : (i, ty, l) ∈ sh_ml) {y : Int32} (hty : ty ≠ 2) (hb : ty = 3 → y = 0 ∨ y = 1) : sh_MW mq A (sh_u2 I i k y) D (sh_up h (A i) (true, ty, (sh_fa l (sh_mv ty I D i)).set k (.int y))) := by
  obtain ⟨h1, h2, h3, h4, h5⟩ := hm
  have hi0 : i ≠ 0 ∧ i ≠ 24 ∧ i ≠ 25 := (show ∀ x ∈ sh_ml, x.1 ≠ 0 ∧ x.1 ≠ 24 ∧ x.1 ≠ 25 by decide) _ hi
  have hun : ∀ x ∈ sh_ml, x.1 = i → x = (i, ty, l) := fun x hx e => (show ∀ x ∈ sh_ml, ∀ y ∈ sh_ml, x.1 = y.1 → x = y by decide) x hx _ hi e
  refine ⟨?_, fun x hx => ?_, h3, h4, fun x hx hx3 j hj => ?_⟩
  · rw [sh_up_ne (fun e => h4 _ hi e.symm), h1]
    simp [sh_mo, sh_u2_row hi0.1.symm, sh_u2_row hi0.2.1.symm, sh_u2_row hi0.2.2.symm]
  · by_cases e : x.1 = i
    · have hx' := hun x hx e
      subst hx'
      rw [sh_up_eq, sh_fa_set]
      congr 3
      apply sh_fa_congr
      intro j _
      by_cases ej : j = k
      · subst ej; simp [sh_mv, hty, sh_u2_eq]
      · simp [sh_mv, hty, ej, sh_u2_col ej]
    · rw [sh_up_ne (fun q => e (h3 x hx _ hi q)), h2 x hx]
      congr 3
      apply sh_fa_congr
      intro j _
      simp [sh_mv, sh_u2_row e]
  · by_cases e : x.1 = i ∧ j = k
    · obtain ⟨e1, e2⟩ := e
      have hx' := hun x hx e1
      subst hx'
      subst e2
      rw [sh_u2_eq]
      exact hb hx3
    · have : sh_u2 I i k y x.1 j = I x.1 j := if_neg e
      rw [this]
      exact h5 x hx hx3 j hj
theorem sh_MW.setD {h : sh_Hp} (hm : sh_MW mq A I D h) {i l k : Nat} (hi : (i, 2, l) ∈ sh_ml) {y : UInt64} : sh_MW mq A I (sh_u2 D i k y) (sh_up h (A i) (true, 2, (sh_fa l (sh_mv 2 I D i)).set k (.double y))) := by
  obtain ⟨h1, h2, h3, h4, h5⟩ := hm
  have hi0 : i ≠ 11 := (show ∀ x ∈ sh_ml, x.1 ≠ 11 by decide) _ hi
  have hun : ∀ x ∈ sh_ml, x.1 = i → x = (i, 2, l) := fun x hx e => (show ∀ x ∈ sh_ml, ∀ y ∈ sh_ml, x.1 = y.1 → x = y by decide) x hx _ hi e
  refine ⟨?_, fun x hx => ?_, h3, h4, h5⟩
  · rw [sh_up_ne (fun e => h4 _ hi e.symm), h1]
    simp [sh_mo, sh_u2_row hi0.symm]
  · by_cases e : x.1 = i
    · have hx' := hun x hx e
      subst hx'
      rw [sh_up_eq, sh_fa_set]
      congr 3
      apply sh_fa_congr
      intro j _
      by_cases ej : j = k
      · subst ej; simp [sh_mv, sh_u2_eq]
      · simp [sh_mv, ej, sh_u2_col ej]
    · rw [sh_up_ne (fun q => e (h3 x hx _ hi q)), h2 x hx]
      congr 3
      apply sh_fa_congr
      intro j _
      simp [sh_mv, sh_u2_row e]
theorem sh_Fr.arr {h0 h : sh_Hp} {i ty l : Nat} {o : sh_Ob} (hf : sh_Fr mq A h0 h) (hi : (i, ty, l) ∈ sh_ml) : sh_Fr mq A h0 (sh_up h (A i) o) := fun q a b => (sh_up_ne (b _ hi)).trans (hf q a b)
theorem sh_Fr.self {h0 h : sh_Hp} {o : sh_Ob} (hf : sh_Fr mq A h0 h) : sh_Fr mq A h0 (sh_up h mq o) := fun q a b => (sh_up_ne a).trans (hf q a b)
theorem sh_miast (i : Nat) {l k : Nat} {y x : Int32} (hd : decode d.2.1 pc = .ok (.iastore, 1)) (hi : (i, 0, l) ∈ sh_ml) (hy : y = nI k) (hk : k < l) (hl : l ≤ 64) (kk : sh_mW mq A d (pc + 1, lv, st) (sh_u2 I i k x) D cs ss v I' D') : sh_mW mq A d (pc, lv, .int x :: .int y :: .ref (A i) :: st) I D cs ss v I' D' := by
  intro n h0 h hm hf
  obtain ⟨e1, e2⟩ := sh_nix (k := k) (by omega)
  obtain ⟨h', a, b, c⟩ := kk n h0 _ (hm.set hi (k := k) (y := x) (by decide) (fun e => by cases e)) (hf.arr hi)
  refine ⟨h', a, b, sh_iast hd (hm.low hi) rfl (by rw [hy]; exact e1) (by rw [hy, e2]; exact sh_ints i l 0 I D k hk (by decide)) ?_⟩
  rw [hy, e2]
  exact c
theorem sh_mzast (i : Nat) {l k : Nat} {y x : Int32} (hd : decode d.2.1 pc = .ok (.bastore, 1)) (hi : (i, 3, l) ∈ sh_ml) (hy : y = nI k) (hk : k < l) (hl : l ≤ 64) (hx : x = 0 ∨ x = 1) (kk : sh_mW mq A d (pc + 1, lv, st) (sh_u2 I i k x) D cs ss v I' D') : sh_mW mq A d (pc, lv, .int x :: .int y :: .ref (A i) :: st) I D cs ss v I' D' := by
  intro n h0 h hm hf
  obtain ⟨e1, e2⟩ := sh_nix (k := k) (by omega)
  obtain ⟨h', a, b, c⟩ := kk n h0 _ (hm.set hi (k := k) (y := x) (by decide) (fun _ => hx)) (hf.arr hi)
  refine ⟨h', a, b, sh_zast hd (hm.low hi) rfl (by rw [hy]; exact e1) (by rw [hy, e2]; exact sh_ints i l 3 I D k hk (by decide)) (by rcases hx with rfl | rfl <;> rfl) ?_⟩
  rw [hy, e2]
  exact c
theorem sh_mdast (i : Nat) {l k : Nat} {y : Int32} {x : UInt64} (hd : decode d.2.1 pc = .ok (.dastore, 1)) (hi : (i, 2, l) ∈ sh_ml) (hy : y = nI k) (hk : k < l) (hl : l ≤ 64) (kk : sh_mW mq A d (pc + 1, lv, st) I (sh_u2 D i k x) cs ss v I' D') : sh_mW mq A d (pc, lv, .double x :: .int y :: .ref (A i) :: st) I D cs ss v I' D' := by
  intro n h0 h hm hf
  obtain ⟨e1, e2⟩ := sh_nix (k := k) (by omega)
  obtain ⟨h', a, b, c⟩ := kk n h0 _ (hm.setD hi (k := k) (y := x)) (hf.arr hi)
  refine ⟨h', a, b, sh_dast hd (hm.low hi) rfl (by rw [hy]; exact e1) (by rw [hy, e2]; exact sh_dbls i l I D k hk) ?_⟩
  rw [hy, e2]
  exact c
/-- a field of the reference's own -/
theorem sh_MW.put {h : sh_Hp} (hm : sh_MW mq A I D h) {k : Nat} (hk : k = 0 ∨ k = 24 ∨ k = 25) {y : Int32} : sh_MW mq A (sh_u2 I k 0 y) D (sh_up h mq (false, 9, (sh_mo A I D).set k (.int y))) := by
  obtain ⟨h1, h2, h3, h4, h5⟩ := hm
  have hne : ∀ x ∈ sh_ml, x.1 ≠ k := fun x hx e => by
    have := (show ∀ x ∈ sh_ml, x.1 ≠ 0 ∧ x.1 ≠ 24 ∧ x.1 ≠ 25 by decide) x hx
    omega
  refine ⟨?_, fun x hx => ?_, h3, h4, fun x hx hx3 j hj => ?_⟩
  · rw [sh_up_eq]
    rcases hk with rfl | rfl | rfl <;> simp [sh_mo, sh_u2]
  · rw [sh_up_ne (h4 x hx), h2 x hx]
    congr 3
    apply sh_fa_congr
    intro j _
    simp [sh_mv, sh_u2_row (hne x hx)]
  · rw [sh_u2_row (hne x hx)]
    exact h5 x hx hx3 j hj
theorem sh_MW.putD {h : sh_Hp} (hm : sh_MW mq A I D h) {y : UInt64} : sh_MW mq A I (sh_u2 D 11 0 y) (sh_up h mq (false, 9, (sh_mo A I D).set 11 (.double y))) := by
  obtain ⟨h1, h2, h3, h4, h5⟩ := hm
  have hne : ∀ x ∈ sh_ml, x.1 ≠ 11 := by decide
  refine ⟨?_, fun x hx => ?_, h3, h4, h5⟩
  · rw [sh_up_eq]
    simp [sh_mo, sh_u2]
  · rw [sh_up_ne (h4 x hx), h2 x hx]
    congr 3
    apply sh_fa_congr
    intro j _
    simp [sh_mv, sh_u2_row (hne x hx)]
theorem sh_mput {index : Nat} (k : Nat) {x : Int32} {nm : String} (hd : decode d.2.1 pc = .ok (.putfield index, 3)) (hk : k = 0 ∨ k = 24 ∨ k = 25) (hf : sh_FL d.1.cls index "SyncHallModel" nm "I") (h2 : (fx_Mod k).2.1 = nm) (kk : sh_mW mq A d (pc + 3, lv, st) (sh_u2 I k 0 x) D cs ss v I' D') : sh_mW mq A d (pc, lv, .int x :: .ref mq :: st) I D cs ss v I' D' := by
  intro n h0 h hm hf0
  obtain ⟨h', a, b, c⟩ := kk n h0 _ (hm.put hk) hf0.self
  refine ⟨h', a, b, ?_⟩
  subst h2
  rcases hk with rfl | rfl | rfl
  · exact sh_put (k := 0) (r := (rn_Mod, fx_Mod, 26)) hd hm.1 rfl (by decide) hf rfl pd_I rfl rfl c
  · exact sh_put (k := 24) (r := (rn_Mod, fx_Mod, 26)) hd hm.1 rfl (by decide) hf rfl pd_I rfl rfl c
  · exact sh_put (k := 25) (r := (rn_Mod, fx_Mod, 26)) hd hm.1 rfl (by decide) hf rfl pd_I rfl rfl c
theorem sh_mputD {index : Nat} {x : UInt64} (hd : decode d.2.1 pc = .ok (.putfield index, 3)) (hf : sh_FL d.1.cls index "SyncHallModel" "time" "D") (kk : sh_mW mq A d (pc + 3, lv, st) I (sh_u2 D 11 0 x) cs ss v I' D') : sh_mW mq A d (pc, lv, .double x :: .ref mq :: st) I D cs ss v I' D' := by
  intro n h0 h hm hf0
  obtain ⟨h', a, b, c⟩ := kk n h0 _ hm.putD hf0.self
  exact ⟨h', a, b, sh_put (k := 11) (r := (rn_Mod, fx_Mod, 26)) hd hm.1 rfl (by decide) hf rfl pd_D rfl rfl c⟩
/-- a call of a method of the reference -/
theorem sh_mcall {dy : sh_Md} {stk : List Value} {As : List Value} {v1 : Option Value} {I1 : sh_II} {D1 : sh_DD} (hc : ∀ w : sh_Wd, (∃ fs, w.2 mq = some (false, 9, fs)) → sh_Call d dy pc stk st w (.ref mq :: As)) (hM : sh_mM mq A dy (.ref mq :: As) I D v1 I1 D1) (hr : sh_Rm d dy st cs ss) (kk : sh_mW mq A d (pc + 3, lv, v1.toList ++ st) I1 D1 (cs + dy.2.2.2.2.1.cells) (ss + dy.2.2.2.2.1.slots) v I' D') : sh_mW mq A d (pc, lv, stk) I D cs ss v I' D' := by
  intro n h0 h hm hf
  obtain ⟨h1, a1, b1, c1⟩ := hM n h0 h hm hf
  obtain ⟨h', a, b, c⟩ := kk n h0 h1 a1 b1
  exact ⟨h', a, b, sh_callR (hc (n, h) ⟨_, hm.1⟩) c1 hr c⟩
/-- numbers that are booleans -/
theorem sh_mbool (k : (∀ x ∈ sh_ml, x.2.1 = 3 → ∀ j, j < x.2.2 → I x.1 j = 0 ∨ I x.1 j = 1) → sh_mW mq A d (pc, lv, st) I D cs ss v I' D') : sh_mW mq A d (pc, lv, st) I D cs ss v I' D' := by
  intro n h0 h hm hf
  exact k hm.2.2.2.2 n h0 h hm hf
end SHO
