/-! the reference's loops as functions of its numbers -/
section MLO
variable {mq : Nat} {A : Nat → Nat} {I : sh_II} {D : sh_DD} {s t : Nat} {l : List Nat} {m : Int32}
theorem ms_r1 {b : Bool} {d : sh_Md} {f : sh_AF} {cs ss : Nat} {I' : sh_II} {D' : sh_DD} (h : b = true) (k : sh_mW mq A d f I D cs ss (some (.int 1)) I' D') : sh_mW mq A d f I D cs ss (some (.int (sp_b b))) I' D' := by rw [sp_b1 h]; exact k
theorem ms_r0 {b : Bool} {d : sh_Md} {f : sh_AF} {cs ss : Nat} {I' : sh_II} {D' : sh_DD} (h : b = false) (k : sh_mW mq A d f I D cs ss (some (.int 0)) I' D') : sh_mW mq A d f I D cs ss (some (.int (sp_b b))) I' D' := by rw [sp_b0 h]; exact k
theorem ml_can0 (ht : t < 6) (hs : s < 8) : ∀ n i, i + n = 6 → sh_mW mq A md_Mod_canTake (131, [(0, .ref mq), (1, .int (nI t)), (2, .int (nI s)), (3, .int m), (5, .int (nI i))], []) I D 0 0 (some (.int (sp_b (decide (¬ m = 1) || !(sp_or I s t i n))))) I D := by
  intro n
  induction n with
  | zero =>
    intro i hi
    by_cases h : m = 1
    · exact ms_r1 (by simp [sp_or]) (mb_Mod_canTake_e_131_1 ht hs (sp_x6 (by omega)) h)
    · exact ms_r1 (by simp [h]) (mb_Mod_canTake_e_131_2 ht hs (sp_x6 (by omega)) h)
  | succ n ih =>
    intro i hi
    have hN := ih (i + 1) (by omega)
    have hx := sp_n6 (i := i) (by omega)
    by_cases h : m = 1
    · unfold sp_or at hN ⊢
      rw [List.range'_succ, List.any_cons]
      by_cases e : i = t
      · rw [show decide (¬ i = t ∧ ¬ I 17 (6 * s + i) ≤ 0) = false by simp [e], Bool.false_or]
        exact mb_Mod_canTake_131_1 ht hs (by omega) hx h (by rw [e]) hN
      · have e' : ¬ nI i = nI t := fun q => e ((nI_eq (by omega) (by omega)).mp q)
        by_cases f : I 17 (6 * s + i) ≤ 0
        · rw [show decide (¬ i = t ∧ ¬ I 17 (6 * s + i) ≤ 0) = false by simp [f], Bool.false_or]
          exact mb_Mod_canTake_131_2 ht hs (by omega) hx h e' f hN
        · rw [show decide (¬ i = t ∧ ¬ I 17 (6 * s + i) ≤ 0) = true from decide_eq_true ⟨e, f⟩, Bool.true_or]
          exact ms_r0 (by simp [h]) (mb_Mod_canTake_131_3 ht hs (by omega) hx h e' f)
    · exact ms_r1 (by simp [h]) (mb_Mod_canTake_131_4 ht hs (by omega) hx h)
theorem ml_can (ht : t < 6) (hs : s < 8) : sh_mM mq A md_Mod_canTake [.ref mq, .int (nI t), .int (nI s), .int m] I D (some (.int (sp_b (sp_can I t s m)))) I D := by
  by_cases h0 : I 12 s = 0
  · by_cases h : 0 ≤ I 13 s
    · exact ms_r0 (by simp only [sp_can, h0, if_true, decide_eq_false_iff_not]; exact Int32.not_lt.mpr h) (mb_Mod_canTake_p_0_1 ht hs h0 h)
    · exact ms_r1 (by simp only [sp_can, h0, if_true, decide_eq_true_eq]; exact Int32.not_le.mp h) (mb_Mod_canTake_p_0_2 ht hs h0 h)
  by_cases h1 : I 12 s = 1
  · have c : sp_can I t s m = decide (I 13 s < 0 ∨ I 13 s = nI t) := by simp [sp_can, h1]
    by_cases h : I 13 s < 0
    · exact ms_r1 (by rw [c]; exact decide_eq_true (Or.inl h)) (mb_Mod_canTake_p_0_3 ht hs h0 h1 h)
    · by_cases g : I 13 s = nI t
      · exact ms_r1 (by rw [c]; exact decide_eq_true (Or.inr g)) (mb_Mod_canTake_p_0_4 ht hs h0 h1 h g)
      · exact ms_r0 (by rw [c]; exact decide_eq_false (fun z => z.elim h g)) (mb_Mod_canTake_p_0_5 ht hs h0 h1 h g)
  by_cases h2 : I 12 s = 2
  · have c : sp_can I t s m = decide (¬ I 15 s ≤ 0) := by simp [sp_can, h2]
    by_cases h : I 15 s ≤ 0
    · exact ms_r0 (by rw [c]; exact decide_eq_false (fun z => z h)) (mb_Mod_canTake_p_0_6 ht hs h0 h1 h2 h)
    · exact ms_r1 (by rw [c]; exact decide_eq_true h) (mb_Mod_canTake_p_0_7 ht hs h0 h1 h2 h)
  by_cases h3 : I 12 s = 3
  · have c : sp_can I t s m = decide (¬ I 15 s ≤ 0) := by simp [sp_can, h3]
    by_cases h : I 15 s ≤ 0
    · exact ms_r0 (by rw [c]; exact decide_eq_false (fun z => z h)) (mb_Mod_canTake_p_0_8 ht hs h0 h1 h2 h3 h)
    · exact ms_r1 (by rw [c]; exact decide_eq_true h) (mb_Mod_canTake_p_0_9 ht hs h0 h1 h2 h3 h)
  by_cases h4 : I 12 s = 4
  · have c : sp_can I t s m = decide (I 15 s = 0) := by simp [sp_can, h4]
    by_cases h : I 15 s = 0
    · exact ms_r1 (by rw [c]; exact decide_eq_true h) (mb_Mod_canTake_p_0_10 ht hs h0 h1 h2 h3 h4 h)
    · exact ms_r0 (by rw [c]; exact decide_eq_false h) (mb_Mod_canTake_p_0_11 ht hs h0 h1 h2 h3 h4 h)
  have c : sp_can I t s m = (decide (I 13 s < 0 ∨ I 13 s = nI t) && (decide (¬ m = 1) || !(sp_or I s t 0 6))) := by simp [sp_can, h0, h1, h2, h3, h4]
  have hl := ml_can0 (mq := mq) (A := A) (I := I) (D := D) (m := m) ht hs 6 0 rfl
  by_cases h : I 13 s < 0
  · rw [c, show decide (I 13 s < 0 ∨ I 13 s = nI t) = true from decide_eq_true (Or.inl h), Bool.true_and]
    exact mb_Mod_canTake_p_0_12 ht hs h0 h1 h2 h3 h4 h hl
  · by_cases g : I 13 s = nI t
    · rw [c, show decide (I 13 s < 0 ∨ I 13 s = nI t) = true from decide_eq_true (Or.inr g), Bool.true_and]
      exact mb_Mod_canTake_p_0_13 ht hs h0 h1 h2 h3 h4 h g hl
    · exact ms_r0 (by rw [c, show decide (I 13 s < 0 ∨ I 13 s = nI t) = false from decide_eq_false (fun z => z.elim h g), Bool.false_and]) (mb_Mod_canTake_p_0_14 ht hs h0 h1 h2 h3 h4 h g)
theorem ml_mq0 (ht : t < 6) (hs : s < 8) (hr : cw_row I s l) : ∀ n i, i + n = l.length → sh_mW mq A md_Mod_mustQueue (82, [(0, .ref mq), (1, .int (nI t)), (2, .int (nI s)), (3, .int m), (5, .int (nI i))], []) I D 0 0 (some (.int (sp_b ((l.drop i).any (fun u => decide (m = 1) || decide (I 6 u = 1)))))) I D := by
  have hlen := hr.2.1
  intro n
  induction n with
  | zero =>
    intro i hi
    rw [List.drop_eq_nil_of_le (by omega)]
    exact mb_Mod_mustQueue_e_82_1 ht hs (by rw [hr.1]; exact nI_le (by omega) (by omega))
  | succ n ih =>
    intro i hi
    obtain ⟨u, hu⟩ := sp_at (l := l) (i := i) (by omega)
    obtain ⟨h1, h2⟩ := hr.2.2 i u hu
    have hx : ¬ I 19 s ≤ nI i := by rw [hr.1]; exact nI_ge (by omega) (by omega)
    rw [sp_drop hu, List.any_cons]
    by_cases e : m = 1
    · exact ms_r1 (by simp [e]) (mb_Mod_mustQueue_82_1 ht hs (by omega) hx h2 h1 e)
    · by_cases f : I 6 u = 1
      · exact ms_r1 (by simp [f]) (mb_Mod_mustQueue_82_2 ht hs (by omega) hx h2 h1 e f)
      · rw [show (decide (m = 1) || decide (I 6 u = 1)) = false by simp [e, f], Bool.false_or]
        exact mb_Mod_mustQueue_82_3 ht hs (by omega) hx h2 h1 e f (ih (i + 1) (by omega))
theorem ml_mq (ht : t < 6) (hs : s < 8) (hr : cw_row I s l) : sh_mM mq A md_Mod_mustQueue [.ref mq, .int (nI t), .int (nI s), .int m] I D (some (.int (sp_b (sp_mq I t s m l)))) I D := by
  have hlp : ¬ I 19 s ≤ 0 → 0 < l.length := fun h => List.length_pos_iff.mpr (fun e => h ((sp_len0 hr).mpr e))
  have hl0 : I 19 s ≤ 0 → l = [] := fun h => (sp_len0 hr).mp h
  by_cases h4 : I 12 s = 4
  · exact ms_r0 (by simp [sp_mq, h4]) (mb_Mod_mustQueue_p_0_1 ht hs h4)
  by_cases h1 : I 12 s = 1
  · have h5 : ¬ I 12 s = 5 := by rw [h1]; decide
    by_cases g : I 13 s = nI t
    · exact ms_r0 (by simp [sp_mq, h1, g]) (mb_Mod_mustQueue_p_0_2 ht hs h4 h1 g)
    · have c : sp_mq I t s m l = decide (0 < l.length) := by simp [sp_mq, h1, g]
      by_cases h : I 19 s ≤ 0
      · exact ms_r0 (by rw [c, hl0 h]; rfl) (mb_Mod_mustQueue_p_0_5 ht hs h4 h1 g h5 h)
      · exact ms_r1 (by rw [c]; exact decide_eq_true (hlp h)) (mb_Mod_mustQueue_p_0_6 ht hs h4 h1 g h5 h)
  by_cases h5 : I 12 s = 5
  · by_cases g : 0 < I 17 (6 * s + t)
    · exact ms_r0 (by simp [sp_mq, h5, g]) (mb_Mod_mustQueue_p_0_7 ht hs h4 h1 h5 g)
    · by_cases f : I 13 s = nI t
      · exact ms_r0 (by simp [sp_mq, h5, f]) (mb_Mod_mustQueue_p_0_8 ht hs h4 h1 h5 g f)
      · rw [show sp_mq I t s m l = l.any (fun u => decide (m = 1) || decide (I 6 u = 1)) by simp [sp_mq, h5, g, f]]
        exact mb_Mod_mustQueue_p_0_9 ht hs h4 h1 h5 g f (ml_mq0 ht hs hr l.length 0 (by omega))
  · have c : sp_mq I t s m l = decide (0 < l.length) := by simp [sp_mq, h4, h1, h5]
    by_cases h : I 19 s ≤ 0
    · exact ms_r0 (by rw [c, hl0 h]; rfl) (mb_Mod_mustQueue_p_0_10 ht hs h4 h1 h5 h)
    · exact ms_r1 (by rw [c]; exact decide_eq_true (hlp h)) (mb_Mod_mustQueue_p_0_11 ht hs h4 h1 h5 h)
/-- a list without doubles, about one of its members -/
theorem sp_split {l : List Nat} {t : Nat} (hn : l.Nodup) (ht : t ∈ l) : ∃ p q : List Nat, l = p ++ t :: q ∧ t ∉ p ∧ sp_rm l t = p ++ q := by
  obtain ⟨p, q, rfl, hp⟩ := List.mem_iff_append.mp ht |>.imp fun p => Exists.imp fun q => fun h => (⟨h, by
    subst h
    intro hc
    have := (List.nodup_append.mp hn).2.2 t hc t (by simp)
    exact this rfl⟩ : _ ∧ t ∉ p)
  refine ⟨p, q, rfl, hp, ?_⟩
  have hq : t ∉ q := by
    have := (List.nodup_append.mp hn).2.1
    exact (List.nodup_cons.mp this).1
  unfold sp_rm
  rw [List.filter_append, List.filter_cons]
  simp only [beq_self_eq_true, Bool.not_true, Bool.false_eq_true, if_false]
  rw [List.filter_eq_self.mpr (fun a ha => by simp; exact fun e => hp (e ▸ ha)), List.filter_eq_self.mpr (fun a ha => by simp; exact fun e => hq (e ▸ ha))]
theorem sp_r18_19 (X : sh_II) (s : Nat) (l : List Nat) (v : Int32) : sp_r18 (sh_u2 X 19 s v) s l = sh_u2 (sp_r18 X s l) 19 s v := by
  funext r c
  unfold sp_r18 sh_u2
  by_cases h : r = 18
  · subst h; simp
  · simp [h]
theorem sp_r18_same {X : sh_II} {s : Nat} {l : List Nat} (h : ∀ i u, l[i]? = some u → X 18 (6 * s + i) = nI u) : sp_r18 X s l = X := by
  funext r c
  unfold sp_r18
  by_cases e : r = 18 ∧ 6 * s ≤ c ∧ c < 6 * s + l.length
  · obtain ⟨rfl, h1, h2⟩ := e
    obtain ⟨u, hu⟩ := sp_at (l := l) (i := c - 6 * s) (by omega)
    rw [if_pos ⟨rfl, h1, h2⟩, List.getD_eq_getElem?_getD, hu]
    have := h _ _ hu
    rw [show 6 * s + (c - 6 * s) = c by omega] at this
    exact this.symm
  · rw [if_neg e]
theorem ml_remove2 {p : Nat} (ht : t < 6) (hs : s < 8) {q : List Nat} (hq : q.length ≤ 5) (h19 : I 19 s = nI q.length) (h18 : ∀ j u, q[j]? = some u → p ≤ j → I 18 (6 * s + j + 1) = nI u) : ∀ n j, j + n = q.length → p ≤ j → sh_mW mq A md_Mod_remove (36, [(0, .ref mq), (1, .int (nI t)), (2, .int (nI s)), (4, .int (nI j))], []) (sp_r18 I s (q.take j)) D 0 0 none (sh_u2 (sp_r18 I s q) 5 t (-1)) D := by
  intro n
  induction n with
  | zero =>
    intro j hj hp
    rw [show q.take j = q by rw [show j = q.length by omega, List.take_length]]
    exact mb_Mod_remove_e_36_1 ht hs (by rw [sp_r18_keep (by decide), h19]; exact nI_le (by omega) (by omega))
  | succ n ih =>
    intro j hj hp
    obtain ⟨u, hu⟩ := sp_at (l := q) (i := j) (by omega)
    have hlen : (q.take j).length = j := by rw [List.length_take]; omega
    have e1 : sp_r18 I s (q.take j) 18 (6 * s + j + 1) = nI u := by
      rw [show 6 * s + j + 1 = 6 * s + (j + 1) by omega, sp_r18_far (by omega)]
      exact h18 j u hu hp
    have hk := ih (j + 1) (by omega) (by omega)
    rw [sp_take hu, ← sp_r18_snoc, hlen, ← e1] at hk
    exact mb_Mod_remove_36_1 ht hs (by omega) (by rw [sp_r18_keep (by decide), h19]; exact nI_ge (by omega) (by omega)) hk
theorem ml_remove1 (ht : t < 6) (hs : s < 8) {p q : List Nat} (hr : cw_row I s (p ++ t :: q)) (hp : t ∉ p) : ∀ n i, i + n = p.length → sh_mW mq A md_Mod_remove (2, [(0, .ref mq), (1, .int (nI t)), (2, .int (nI s)), (3, .int (nI i))], []) I D 0 0 none (sh_u2 (sp_row I s (p ++ q)) 5 t (-1)) D := by
  have hlen := hr.2.1
  rw [List.length_append, List.length_cons] at hlen
  intro n
  induction n with
  | zero =>
    intro i hi
    have hi' : i = p.length := by omega
    subst hi'
    have h0 := (hr.2.2 p.length t (by rw [List.getElem?_append_right (Nat.le_refl _), Nat.sub_self]; rfl)).1
    have e19 : I 19 s - 1 = nI (p ++ q).length := by rw [hr.1, List.length_append, List.length_cons, ← Nat.add_assoc, nI_pred, List.length_append]
    have h2 := ml_remove2 (mq := mq) (A := A) (I := sh_u2 I 19 s (nI (p ++ q).length)) (D := D) (p := p.length) ht hs (q := p ++ q) (by rw [List.length_append]; omega) (sh_u2_eq _ _ _ _) (fun j u hu hj => by
      rw [sh_u2_row (by decide)]
      rw [List.getElem?_append_right hj] at hu
      have := (hr.2.2 (j + 1) u (by rw [List.getElem?_append_right (by omega), show j + 1 - p.length = (j - p.length) + 1 by omega, List.getElem?_cons_succ]; exact hu)).1
      rw [show 6 * s + j + 1 = 6 * s + (j + 1) by omega]; exact this) q.length p.length (by rw [List.length_append]) (Nat.le_refl _)
    rw [List.take_left' rfl, sp_r18_same (fun i u hu => by
      rw [sh_u2_row (by decide)]
      have hi := (List.getElem?_eq_some_iff.mp hu).1
      exact (hr.2.2 i u (by rw [List.getElem?_append_left hi]; exact hu)).1), sp_r18_19] at h2
    rw [← e19] at h2
    refine mb_Mod_remove_2_1 ht hs (by omega) h0 ?_
    rw [sp_row, ← e19]
    exact h2
  | succ n ih =>
    intro i hi
    obtain ⟨u, hu⟩ := sp_at (l := p) (i := i) (by omega)
    have hu' := hr.2.2 i u (by rw [List.getElem?_append_left (by omega)]; exact hu)
    have hne : ¬ u = t := fun e => hp (e ▸ List.mem_of_getElem? hu)
    exact mb_Mod_remove_2_2 ht hs (by omega) (by rw [hu'.1]; exact nI_neq hu'.2 ht hne) (ih (i + 1) (by omega))
theorem ml_remove (ht : t < 6) (hs : s < 8) (hr : cw_row I s l) (hn : l.Nodup) (hm : t ∈ l) : sh_mM mq A md_Mod_remove [.ref mq, .int (nI t), .int (nI s)] I D none (sh_u2 (sp_row I s (sp_rm l t)) 5 t (-1)) D := by
  obtain ⟨p, q, rfl, hp, e⟩ := sp_split hn hm
  rw [e]
  exact mb_Mod_remove_p_0_1 ht hs (ml_remove1 ht hs hr hp p.length 0 (by omega))
def sp_mn (X : sh_II) (Y : sh_DD) (s b u : Nat) : Nat := if (X 12 s = 3 ∧ 0 < Op.cmpValue (FP.dcmp (Y 3 u) (Y 3 b)) .l) ∨ (X 12 s = 5 ∧ X 6 b = 0 ∧ X 6 u = 1) then u else b
theorem sp_mn_lt {X : sh_II} {Y : sh_DD} {b u : Nat} (hb : b < 6) (hu : u < 6) : sp_mn X Y s b u < 6 := by unfold sp_mn; split <;> assumption
theorem ml_next0 (hs : s < 8) (hr : cw_row I s l) : ∀ n i b, i + n = l.length → b < 6 → sh_mW mq A md_Mod_next (12, [(0, .ref mq), (1, .int (nI s)), (2, .int (nI b)), (3, .int (nI i))], []) I D 0 0 (some (.int (nI ((l.drop i).foldl (sp_mn I D s) b)))) I D := by
  have hlen := hr.2.1
  intro n
  induction n with
  | zero =>
    intro i b hi hb
    rw [List.drop_eq_nil_of_le (by omega)]
    exact mb_Mod_next_e_12_1 hs hb (by rw [hr.1]; exact nI_le (by omega) (by omega))
  | succ n ih =>
    intro i b hi hb
    obtain ⟨u, hu⟩ := sp_at (l := l) (i := i) (by omega)
    obtain ⟨h1, h2⟩ := hr.2.2 i u hu
    have hx : ¬ I 19 s ≤ nI i := by rw [hr.1]; exact nI_ge (by omega) (by omega)
    rw [sp_drop hu, List.foldl_cons]
    have hN := fun b' (h : b' < 6) => ih (i + 1) b' (by omega) h
    by_cases k3 : I 12 s = 3
    · have k5 : ¬ I 12 s = 5 := by rw [k3]; decide
      by_cases g : 0 < Op.cmpValue (FP.dcmp (D 3 u) (D 3 b)) .l
      · rw [show sp_mn I D s b u = u from if_pos (Or.inl ⟨k3, g⟩)]
        exact mb_Mod_next_12_1 hs hb (by omega) hx h2 h1 k3 g (by rw [h1]; exact hN u h2)
      · rw [show sp_mn I D s b u = b from if_neg (fun z => z.elim (fun y => g y.2) (fun y => k5 y.1))]
        exact mb_Mod_next_12_5 hs hb (by omega) hx h2 h1 k3 g k5 (hN b hb)
    · by_cases k5 : I 12 s = 5
      · by_cases m0 : I 6 b = 0
        · by_cases m1 : I 6 u = 1
          · rw [show sp_mn I D s b u = u from if_pos (Or.inr ⟨k5, m0, m1⟩)]
            exact mb_Mod_next_12_6 hs hb (by omega) hx h2 h1 k3 k5 m0 m1 (by rw [h1]; exact hN u h2)
          · rw [show sp_mn I D s b u = b from if_neg (fun z => z.elim (fun y => k3 y.1) (fun y => m1 y.2.2))]
            exact mb_Mod_next_12_7 hs hb (by omega) hx h2 h1 k3 k5 m0 m1 (hN b hb)
        · rw [show sp_mn I D s b u = b from if_neg (fun z => z.elim (fun y => k3 y.1) (fun y => m0 y.2.1))]
          exact mb_Mod_next_12_8 hs hb (by omega) hx h2 h1 k3 k5 m0 (hN b hb)
      · rw [show sp_mn I D s b u = b from if_neg (fun z => z.elim (fun y => k3 y.1) (fun y => k5 y.1))]
        exact mb_Mod_next_12_9 hs hb (by omega) hx h2 h1 k3 k5 (hN b hb)
theorem sp_mn_fw {X : sh_II} {Y : sh_DD} (h5 : X 12 s = 5) : ∀ (r : List Nat) (a : Nat), (∀ u ∈ a :: r, X 6 u = 0 ∨ X 6 u = 1) → (match sp_fw X (a :: r) with | some u => some u | none => some a) = some (r.foldl (sp_mn X Y s) a) := by
  intro r
  induction r with
  | nil =>
    intro a hm
    by_cases h : X 6 a = 1 <;> simp [sp_fw, h]
  | cons b r ih =>
    intro a hm
    rw [List.foldl_cons]
    have h3 : ¬ X 12 s = 3 := by rw [h5]; decide
    by_cases h : X 6 a = 1
    · have e : sp_mn X Y s a b = a := if_neg (fun z => z.elim (fun y => h3 y.1) (fun y => by rw [h] at y; exact absurd y.2.1 (by decide)))
      rw [e]
      have := ih a (fun u hu => hm u (by rcases List.mem_cons.mp hu with q | q <;> simp [q]))
      rw [← this]
      simp [sp_fw, h]
    · have h0 : X 6 a = 0 := (hm a (by simp)).resolve_right h
      by_cases hb : X 6 b = 1
      · have e : sp_mn X Y s a b = b := if_pos (Or.inr ⟨h5, h0, hb⟩)
        rw [e, ← ih b (fun u hu => hm u (List.mem_cons_of_mem _ hu))]
        simp [sp_fw, h, hb]
      · have e : sp_mn X Y s a b = a := if_neg (fun z => z.elim (fun y => h3 y.1) (fun y => hb y.2.2))
        rw [e, ← ih a (fun u hu => hm u (by rcases List.mem_cons.mp hu with q | q <;> simp [q]))]
        simp [sp_fw, h, hb]
theorem sp_nx_mn {X : sh_II} {Y : sh_DD} {a : Nat} {r : List Nat} (hm : ∀ u ∈ a :: r, X 6 u = 0 ∨ X 6 u = 1) : sp_nx X Y s (a :: r) = some (r.foldl (sp_mn X Y s) a) := by
  unfold sp_nx
  by_cases h3 : X 12 s = 3
  · rw [if_pos h3]
    show some _ = some _
    congr 2
    funext b u
    unfold sp_g1 sp_mn
    have h5 : ¬ X 12 s = 5 := by rw [h3]; decide
    by_cases g : Op.cmpValue (FP.dcmp (Y 3 u) (Y 3 b)) .l ≤ 0
    · rw [if_pos g, if_neg (fun z => z.elim (fun y => Int32.not_lt.mpr g y.2) (fun y => h5 y.1))]
    · rw [if_neg g, if_pos (Or.inl ⟨h3, Int32.not_le.mp g⟩)]
  · rw [if_neg h3]
    by_cases h5 : X 12 s = 5
    · rw [if_pos h5]
      exact sp_mn_fw h5 r a hm
    · rw [if_neg h5]
      have : ∀ (r : List Nat), r.foldl (sp_mn X Y s) a = a := by
        intro r
        induction r with
        | nil => rfl
        | cons b r ih => rw [List.foldl_cons, show sp_mn X Y s a b = a from if_neg (fun z => z.elim (fun y => h3 y.1) (fun y => h5 y.1)), ih]
      rw [this]; rfl
theorem ml_next {u : Nat} (hs : s < 8) (hr : cw_row I s l) (hm : ∀ u ∈ l, I 6 u = 0 ∨ I 6 u = 1) (hu : sp_nx I D s l = some u) : sh_mM mq A md_Mod_next [.ref mq, .int (nI s)] I D (some (.int (nI u))) I D := by
  cases l with
  | nil =>
    unfold sp_nx at hu
    split at hu
    · cases hu
    · split at hu <;> cases hu
  | cons a r =>
    rw [sp_nx_mn hm] at hu
    cases hu
    obtain ⟨h1, h2⟩ := hr.2.2 0 a rfl
    have h1' : I 18 (6 * s) = nI a := h1
    exact mb_Mod_next_p_0_1 hs h2 h1' (by rw [h1']; exact ml_next0 hs hr r.length 1 a (by simp; omega) h2)
def sp_mtk (X : sh_II) (t s : Nat) (m : Int32) : sh_II :=
  if X 12 s = 2 ∨ X 12 s = 3 then sh_u2 X 15 s ((X 15 s) - 1) else if X 12 s = 5 ∧ m = 0 then sh_u2 X 17 (6 * s + t) ((X 17 (6 * s + t)) + 1) else if ¬ X 12 s = 4 then sh_u2 (sh_u2 X 13 s (nI t)) 14 s ((X 14 s) + 1) else X
theorem sp_mtk_keep {X : sh_II} {t s : Nat} {m : Int32} {r : Nat} (h : r ≠ 13 ∧ r ≠ 14 ∧ r ≠ 15 ∧ r ≠ 17) (c : Nat) : sp_mtk X t s m r c = X r c := by
  unfold sp_mtk
  split
  · rw [sh_u2_row h.2.2.1]
  split
  · rw [sh_u2_row h.2.2.2]
  split
  · rw [sh_u2_row h.2.1, sh_u2_row h.1]
  · rfl
theorem ms_st {d : sh_Md} {As : List Value} {r : Option Value} {I1 I2 : sh_II} {D1 : sh_DD} (h : I1 = I2) (k : sh_mM mq A d As I D r I2 D1) : sh_mM mq A d As I D r I1 D1 := by rw [h]; exact k
theorem ml_take (ht : t < 6) (hs : s < 8) : sh_mM mq A md_Mod_take [.ref mq, .int (nI t), .int (nI s), .int m] I D none (sp_mtk I t s m) D := by
  by_cases h2 : I 12 s = 2
  · exact ms_st (by simp [sp_mtk, h2]) (mx_Mod_take_1 ht hs h2)
  by_cases h3 : I 12 s = 3
  · exact ms_st (by simp [sp_mtk, h3]) (mx_Mod_take_2 ht hs h2 h3)
  by_cases h5 : I 12 s = 5
  · by_cases h : m = 0
    · exact ms_st (by simp [sp_mtk, h5, h]) (mx_Mod_take_3 ht hs h2 h3 h5 h)
    · exact ms_st (by simp [sp_mtk, h5, h]) (mx_Mod_take_5 ht hs h2 h3 h5 h (by rw [h5]; decide))
  by_cases h4 : I 12 s = 4
  · exact ms_st (by simp [sp_mtk, h4]) (mx_Mod_take_6 ht hs h2 h3 h5 h4)
  · exact ms_st (by simp [sp_mtk, h2, h3, h4, h5]) (mx_Mod_take_7 ht hs h2 h3 h5 h4)
/-- into the row of s -/
def sp_ment (X : sh_II) (s t : Nat) (l : List Nat) : sh_II := sh_u2 (sh_u2 (sh_u2 (sh_u2 X 18 (6 * s + l.length) (nI t)) 19 s ((X 19 s) + 1)) 5 t (nI s)) 1 t 1
theorem sp_ment_keep {X : sh_II} {s t : Nat} {l : List Nat} {r : Nat} (h : r ≠ 18 ∧ r ≠ 19 ∧ r ≠ 5 ∧ r ≠ 1) (c : Nat) : sp_ment X s t l r c = X r c := by
  unfold sp_ment
  rw [sh_u2_row h.2.2.2, sh_u2_row h.2.2.1, sh_u2_row h.2.1, sh_u2_row h.1]
theorem ml_enter (ht : t < 6) (hs : s < 8) (hr : cw_row I s l) (hlen : l.length < 6) : sh_mM mq A md_Mod_enter [.ref mq, .int (nI t), .int (nI s)] I D none (sp_ment I s t l) (sh_u2 D 8 t (D 11 0)) := mx_Mod_enter_1 ht hs hr hlen
def sp_mrem (X : sh_II) (s t : Nat) (l : List Nat) : sh_II := sh_u2 (sp_row X s (sp_rm l t)) 5 t (-1)
theorem sp_mrem_keep {X : sh_II} {s t : Nat} {l : List Nat} {r : Nat} (h : r ≠ 18 ∧ r ≠ 19 ∧ r ≠ 5) (c : Nat) : sp_mrem X s t l r c = X r c := by
  unfold sp_mrem
  rw [sh_u2_row h.2.2, sp_row_keep ⟨h.1, h.2.1⟩]
end MLO
