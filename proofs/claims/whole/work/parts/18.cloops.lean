/-! what the loops do, as functions of the numbers -/
def sp_rm (l : List Nat) (t : Nat) : List Nat := l.filter (fun u => !(u == t))
def sp_r18 (X : sh_II) (s : Nat) (l : List Nat) : sh_II := fun r c => if r = 18 ∧ 6 * s ≤ c ∧ c < 6 * s + l.length then nI (l.getD (c - 6 * s) 0) else X r c
def sp_row (X : sh_II) (s : Nat) (l : List Nat) : sh_II := sh_u2 (sp_r18 X s l) 19 s (nI l.length)
/-- the row of waiters of s is l -/
def cw_row (X : sh_II) (s : Nat) (l : List Nat) : Prop := X 19 s = nI l.length ∧ l.length ≤ 6 ∧ ∀ i u, l[i]? = some u → X 18 (6 * s + i) = nI u ∧ u < 6
theorem sp_x8 {i : Nat} (h : i = 8) : (8 : Int32) ≤ nI i := by subst h; decide
theorem sp_n8 {i : Nat} (h : i < 8) : ¬ (8 : Int32) ≤ nI i := nI_ge (b := 8) h (by decide)
theorem sp_x6 {i : Nat} (h : i = 6) : (6 : Int32) ≤ nI i := by subst h; decide
theorem sp_n6 {i : Nat} (h : i < 6) : ¬ (6 : Int32) ≤ nI i := nI_ge (b := 6) h (by decide)
theorem sp_r18_keep {X : sh_II} {s : Nat} {l : List Nat} {r : Nat} (h : r ≠ 18) (c : Nat) : sp_r18 X s l r c = X r c := if_neg (fun e => h e.1)
theorem sp_r18_nil (X : sh_II) (s : Nat) : sp_r18 X s [] = X := by
  funext r c
  exact if_neg (fun e => by have := e.2.2; simp at this; omega)
theorem sp_r18_far {X : sh_II} {s : Nat} {l : List Nat} {i : Nat} (h : l.length ≤ i) : sp_r18 X s l 18 (6 * s + i) = X 18 (6 * s + i) := if_neg (fun e => by omega)
theorem sp_r18_snoc (X : sh_II) (s : Nat) (l : List Nat) (u : Nat) : sh_u2 (sp_r18 X s l) 18 (6 * s + l.length) (nI u) = sp_r18 X s (l ++ [u]) := by
  funext r c
  unfold sh_u2 sp_r18
  by_cases hr : r = 18
  · subst hr
    by_cases hc : c = 6 * s + l.length
    · subst hc
      simp
    · by_cases h1 : 6 * s ≤ c ∧ c < 6 * s + l.length
      · rw [if_neg (fun e => hc e.2), if_pos ⟨rfl, h1⟩, if_pos ⟨rfl, h1.1, by rw [List.length_append]; simp; omega⟩]
        congr 1
        simp only [List.getD_eq_getElem?_getD]
        rw [List.getElem?_append_left (by omega)]
      · rw [if_neg (fun e => hc e.2), if_neg (fun e => h1 e.2), if_neg (fun e => by have := e.2.2; rw [List.length_append] at this; simp at this; omega)]
  · rw [if_neg (fun e => hr e.1), if_neg (fun e => hr e.1), if_neg (fun e => hr e.1)]
theorem sp_rm_snoc (l : List Nat) (t u : Nat) : sp_rm (l ++ [u]) t = if u = t then sp_rm l t else sp_rm l t ++ [u] := by
  unfold sp_rm
  rw [List.filter_append]
  by_cases h : u = t <;> simp [h]
theorem sp_rm_len (l : List Nat) (t : Nat) : (sp_rm l t).length ≤ l.length := List.length_filter_le _ _
theorem sp_at {l : List Nat} {i : Nat} (h : i < l.length) : ∃ u, l[i]? = some u := ⟨l[i], List.getElem?_eq_getElem h⟩
theorem sp_take {l : List Nat} {i u : Nat} (h : l[i]? = some u) : l.take (i + 1) = l.take i ++ [u] := by rw [List.take_add_one, h]; rfl
theorem sp_drop {l : List Nat} {i u : Nat} (h : l[i]? = some u) : l.drop i = u :: l.drop (i + 1) := by
  obtain ⟨h1, h2⟩ := List.getElem?_eq_some_iff.mp h
  rw [List.drop_eq_getElem_cons h1, h2]
section CLO
variable {A : Nat → Nat} {K : sh_II} {L : sh_DD} {s t : Nat} {l : List Nat}
theorem cl_remove0 (hs : s < 8) (ht : t < 6) (hz : ¬ cw_cl (K 12 s) = 0) (hr : cw_row K s l) : ∀ n i, i + n = l.length → sh_cW A md_Waiters_remove (4, [(0, .ref (A (30 + s))), (1, .ref (A (10 + t))), (2, .int (nI (sp_rm (l.take i) t).length)), (3, .int (nI i))], []) (sp_r18 K s (sp_rm (l.take i) t)) L 0 0 (.inl none) (sp_row K s (sp_rm l t)) L := by
  intro n
  induction n with
  | zero =>
    intro i hi
    have hz' : ¬ cw_cl (sp_r18 K s (sp_rm (l.take i) t) 12 s) = 0 := by rw [sp_r18_keep (by decide)]; exact hz
    have h := cb_Waiters_remove_e_4_1 (A := A) (L := L) (t := t) (e := (sp_rm (l.take i) t).length) (i := i) hs ht hz' (by rw [sp_r18_keep (by decide), hr.1]; exact nI_le (by omega) (by have := hr.2.1; omega))
    rw [show i = l.length by omega, List.take_length] at h ⊢
    exact h
  | succ n ih =>
    intro i hi
    have hlen := hr.2.1
    obtain ⟨u, hu⟩ := sp_at (l := l) (i := i) (by omega)
    obtain ⟨h1, h2⟩ := hr.2.2 i u hu
    have hm : (sp_rm (l.take i) t).length ≤ i := Nat.le_trans (sp_rm_len _ _) (by rw [List.length_take]; omega)
    have hz' : ¬ cw_cl (sp_r18 K s (sp_rm (l.take i) t) 12 s) = 0 := by rw [sp_r18_keep (by decide)]; exact hz
    have hx : ¬ sp_r18 K s (sp_rm (l.take i) t) 19 s ≤ nI i := by rw [sp_r18_keep (by decide), hr.1]; exact nI_ge (by omega) (by omega)
    have her : sp_r18 K s (sp_rm (l.take i) t) 18 (6 * s + i) = nI u := by rw [sp_r18_far hm]; exact h1
    have hk := ih (i + 1) (by omega)
    rw [sp_take hu, sp_rm_snoc] at hk
    by_cases e : u = t
    · rw [if_pos e] at hk
      exact cb_Waiters_remove_4_1 hs ht hz' (by omega) (by omega) hx h2 her e hk
    · rw [if_neg e, ← sp_r18_snoc, List.length_append] at hk
      exact cb_Waiters_remove_4_2 hs ht hz' (by omega) (by omega) hx h2 her e hk
theorem cl_remove (hs : s < 8) (ht : t < 6) (hz : ¬ cw_cl (K 12 s) = 0) (hr : cw_row K s l) : sh_cM A md_Waiters_remove [.ref (A (30 + s)), .ref (A (10 + t))] K L (.inl none) (sp_row K s (sp_rm l t)) L := by
  have h := cl_remove0 (A := A) (L := L) hs ht hz hr l.length 0 (by omega)
  rw [show sp_rm (l.take 0) t = [] from rfl, sp_r18_nil] at h
  exact cb_Waiters_remove_p_0_1 hs ht hz h
def sp_fw (X : sh_II) (l : List Nat) : Option Nat := l.find? (fun u => decide (X 6 u = 1))
theorem cl_firstToWrite0 (hs : s < 8) (hz : ¬ cw_cl (K 12 s) = 0) (hr : cw_row K s l) : ∀ n i, i + n = l.length → sh_cW A md_Waiters_firstToWrite (2, [(0, .ref (A (30 + s))), (1, .int (nI i))], []) K L 0 0 (.inl (some (va_rf ((sp_fw K (l.drop i)).map fun u => A (10 + u))))) K L := by
  intro n
  induction n with
  | zero =>
    intro i hi
    rw [List.drop_eq_nil_of_le (by omega)]
    exact cb_Waiters_firstToWrite_e_2_1 hs hz (by rw [hr.1]; exact nI_le (by omega) (by have := hr.2.1; omega))
  | succ n ih =>
    intro i hi
    have hlen := hr.2.1
    obtain ⟨u, hu⟩ := sp_at (l := l) (i := i) (by omega)
    obtain ⟨h1, h2⟩ := hr.2.2 i u hu
    have hx : ¬ K 19 s ≤ nI i := by rw [hr.1]; exact nI_ge (by omega) (by omega)
    have hk := ih (i + 1) (by omega)
    rw [sp_drop hu]
    by_cases e : K 6 u = 1
    · rw [show sp_fw K (u :: l.drop (i + 1)) = some u by simp [sp_fw, e]]
      exact cb_Waiters_firstToWrite_2_1 hs hz (by omega) hx h2 h1 e
    · rw [show sp_fw K (u :: l.drop (i + 1)) = sp_fw K (l.drop (i + 1)) by simp [sp_fw, e]]
      exact cb_Waiters_firstToWrite_2_2 hs hz (by omega) hx h2 h1 e hk
theorem cl_firstToWrite (hs : s < 8) (hz : ¬ cw_cl (K 12 s) = 0) (hr : cw_row K s l) : sh_cM A md_Waiters_firstToWrite [.ref (A (30 + s))] K L (.inl (some (va_rf ((sp_fw K l).map fun u => A (10 + u))))) K L :=
  cb_Waiters_firstToWrite_p_0_1 hs hz (cl_firstToWrite0 hs hz hr l.length 0 (by omega))
def sp_g1 (Y : sh_DD) (b u : Nat) : Nat := if Op.cmpValue (FP.dcmp (Y 3 u) (Y 3 b)) .l ≤ 0 then b else u
def sp_gp (Y : sh_DD) (l : List Nat) : Option Nat := match l with
  | [] => none
  | a :: r => some (r.foldl (sp_g1 Y) a)
theorem cl_greatest0 (hs : s < 8) (hz : ¬ cw_cl (K 12 s) = 0) (hr : cw_row K s l) : ∀ n i b, i + n = l.length → b < 6 → sh_cW A md_Waiters_firstOfGreatestPriority (8, [(0, .ref (A (30 + s))), (1, .ref (A (10 + b))), (2, .int (nI i))], []) K L 0 0 (.inl (some (.ref (A (10 + (l.drop i).foldl (sp_g1 L) b))))) K L := by
  intro n
  induction n with
  | zero =>
    intro i b hi hb
    rw [List.drop_eq_nil_of_le (by omega)]
    exact cb_Waiters_firstOfGreatestPriority_e_8_1 hs hz hb (by rw [hr.1]; exact nI_le (by omega) (by have := hr.2.1; omega))
  | succ n ih =>
    intro i b hi hb
    have hlen := hr.2.1
    obtain ⟨u, hu⟩ := sp_at (l := l) (i := i) (by omega)
    obtain ⟨h1, h2⟩ := hr.2.2 i u hu
    have hx : ¬ K 19 s ≤ nI i := by rw [hr.1]; exact nI_ge (by omega) (by omega)
    rw [sp_drop hu, List.foldl_cons]
    by_cases e : Op.cmpValue (FP.dcmp (L 3 u) (L 3 b)) .l ≤ 0
    · rw [show sp_g1 L b u = b from if_pos e]
      exact cb_Waiters_firstOfGreatestPriority_8_1 hs hz hb (by omega) hx h2 h1 e (ih (i + 1) b (by omega) hb)
    · rw [show sp_g1 L b u = u from if_neg e]
      exact cb_Waiters_firstOfGreatestPriority_8_2 hs hz hb (by omega) hx h2 h1 e (ih (i + 1) u (by omega) h2)
theorem cl_greatest (hs : s < 8) (hz : ¬ cw_cl (K 12 s) = 0) (hr : cw_row K s l) : sh_cM A md_Waiters_firstOfGreatestPriority [.ref (A (30 + s))] K L (.inl (some (va_rf ((sp_gp L l).map fun u => A (10 + u))))) K L := by
  have hlen := hr.2.1
  cases l with
  | nil =>
    have h0 : K 19 s = 0 := hr.1
    exact cb_Waiters_firstOfGreatestPriority_p_0_1 hs hz (by rw [h0]; decide) (cb_Waiters_firstOfGreatestPriority_n_8_1 (i := 1) hs hz (by rw [h0]; decide))
  | cons a r =>
    have hrr := hr
    obtain ⟨h1, h2⟩ := hr.2.2 0 a rfl
    have hx : ¬ K 19 s ≤ 0 := by rw [hr.1]; exact nI_nle (by simp) (by simp at hlen ⊢; omega)
    exact cb_Waiters_firstOfGreatestPriority_p_0_3 hs hz hx h2 h1 (cl_greatest0 hs hz hrr r.length 1 a (by simp; omega) h2)
def sp_b (b : Bool) : Int32 := if b then 1 else 0
def sp_or (X : sh_II) (s t : Nat) (i n : Nat) : Bool := (List.range' i n).any (fun o => decide (¬ o = t ∧ ¬ X 17 (6 * s + o) ≤ 0))
theorem cl_othersRead0 (hs : s < 8) (ht : t < 6) (hk : cw_cl (K 12 s) = 7) : ∀ n i, i + n = 6 → sh_cW A md_Shared_othersRead (2, [(0, .ref (A (20 + s))), (1, .ref (A (10 + t))), (2, .int (nI i))], []) K L 0 0 (.inl (some (.int (sp_b (sp_or K s t i n))))) K L := by
  intro n
  induction n with
  | zero => intro i hi; exact cb_Shared_othersRead_e_2_1 hs ht (sp_x6 (by omega)) hk
  | succ n ih =>
    intro i hi
    have hN := ih (i + 1) (by omega)
    have hx := sp_n6 (i := i) (by omega)
    unfold sp_or at hN ⊢
    rw [List.range'_succ, List.any_cons]
    by_cases e : i = t
    · rw [show decide (¬ i = t ∧ ¬ K 17 (6 * s + i) ≤ 0) = false by simp [e], Bool.false_or]
      exact cb_Shared_othersRead_2_1 hs ht (by omega) hx hk (by rw [e]) hN
    · have e' : ¬ nI i = nI t := fun q => e ((nI_eq (by omega) (by omega)).mp q)
      by_cases f : K 17 (6 * s + i) ≤ 0
      · rw [show decide (¬ i = t ∧ ¬ K 17 (6 * s + i) ≤ 0) = false by simp [f], Bool.false_or]
        exact cb_Shared_othersRead_2_2 hs ht (by omega) hx hk e' f hN
      · rw [show decide (¬ i = t ∧ ¬ K 17 (6 * s + i) ≤ 0) = true from decide_eq_true ⟨e, f⟩, Bool.true_or]
        exact cb_Shared_othersRead_2_3 hs ht (by omega) hx hk e' f
theorem cl_othersRead (hs : s < 8) (ht : t < 6) (hk : cw_cl (K 12 s) = 7) : sh_cM A md_Shared_othersRead [.ref (A (20 + s)), .ref (A (10 + t))] K L (.inl (some (.int (sp_b (sp_or K s t 0 6))))) K L := cb_Shared_othersRead_p_0_1 hs ht hk (cl_othersRead0 hs ht hk 6 0 rfl)
/-- the bit i of x is not set -/
def sp_bit0 (x : Int32) (i : Nat) : Prop := ((x >>> ((nI i) &&& 31)) &&& 1) = 0
def sp_a1 (X : sh_II) (x : Int32) (y : Int32) (i : Nat) : Int32 := if ((x >>> ((nI i) &&& 31)) &&& 1) = 0 then y else y ||| X 28 i
def sp_aft (X : sh_II) (x : Int32) : Int32 := (List.range' 0 8).foldl (sp_a1 X x) 0
theorem cl_afterAny0 {x : Int32} : ∀ n i y, i + n = 8 → sh_cW A md_LockOrder_afterAny (4, [(0, .ref (A 3)), (1, .int x), (2, .int y), (3, .int (nI i))], []) K L 0 0 (.inl (some (.int ((List.range' i n).foldl (sp_a1 K x) y)))) K L := by
  intro n
  induction n with
  | zero => intro i y hi; exact cb_LockOrder_afterAny_e_4_1 (sp_x8 (by omega))
  | succ n ih =>
    intro i y hi
    rw [List.range'_succ, List.foldl_cons]
    by_cases e : ((x >>> ((nI i) &&& 31)) &&& 1) = 0
    · rw [show sp_a1 K x y i = y from if_pos e]
      exact cb_LockOrder_afterAny_4_1 (by omega) (sp_n8 (by omega)) e (ih (i + 1) y (by omega))
    · rw [show sp_a1 K x y i = y ||| K 28 i from if_neg e]
      exact cb_LockOrder_afterAny_4_2 (by omega) (sp_n8 (by omega)) e (ih (i + 1) _ (by omega))
theorem cl_afterAny {x : Int32} : sh_cM A md_LockOrder_afterAny [.ref (A 3), .int x] K L (.inl (some (.int (sp_aft K x)))) K L := cb_LockOrder_afterAny_p_0_1 (cl_afterAny0 8 0 0 rfl)
def sp_p1 (x : Int32) (j : Nat) (X : sh_II) (i : Nat) : sh_II := if ((x >>> ((nI i) &&& 31)) &&& 1) = 0 then X else sh_u2 X 28 i ((X 28 i) ||| (1 <<< ((nI j) &&& 31)))
def sp_put (X : sh_II) (x : Int32) (j : Nat) : sh_II := (List.range' 0 8).foldl (sp_p1 x j) X
theorem cl_putBefore0 {x : Int32} {j : Nat} : ∀ n i (K : sh_II), i + n = 8 → sh_cW A md_LockOrder_putBefore (2, [(0, .ref (A 3)), (1, .int x), (2, .int (nI j)), (3, .int (nI i))], []) K L 0 0 (.inl none) ((List.range' i n).foldl (sp_p1 x j) K) L := by
  intro n
  induction n with
  | zero => intro i K hi; exact cb_LockOrder_putBefore_e_2_1 (sp_x8 (by omega))
  | succ n ih =>
    intro i K hi
    rw [List.range'_succ, List.foldl_cons]
    by_cases e : ((x >>> ((nI i) &&& 31)) &&& 1) = 0
    · rw [show sp_p1 x j K i = K from if_pos e]
      exact cb_LockOrder_putBefore_2_1 (by omega) (sp_n8 (by omega)) e (ih (i + 1) K (by omega))
    · rw [show sp_p1 x j K i = _ from if_neg e]
      exact cb_LockOrder_putBefore_2_2 (by omega) (sp_n8 (by omega)) e (ih (i + 1) _ (by omega))
theorem cl_putBefore {x : Int32} {j : Nat} : sh_cM A md_LockOrder_putBefore [.ref (A 3), .int x, .int (nI j)] K L (.inl none) (sp_put K x j) L := cb_LockOrder_putBefore_p_0_1 (cl_putBefore0 8 0 K rfl)
/-- references to threads are right -/
def cw_okr (X : sh_II) : Prop := ∀ s, s < 8 → X 13 s = -1 ∨ ∃ u, u < 6 ∧ X 13 s = nI u
def sp_o1 (X : sh_II) (t : Nat) (y : Int32) (i : Nat) : Int32 := if cw_cl (X 12 i) = 4 ∧ X 13 i = nI t then y ||| (1 <<< ((nI i) &&& 31)) else y
def sp_own (X : sh_II) (t : Nat) : Int32 := (List.range' 0 8).foldl (sp_o1 X t) 0
theorem cw_cl_cases (x : Int32) : cw_cl x = 0 ∨ cw_cl x = 4 ∨ cw_cl x = 5 ∨ cw_cl x = 6 ∨ cw_cl x = 7 ∨ cw_cl x = 8 := by
  unfold cw_cl
  split
  · simp
  split
  · simp
  split
  · simp
  split
  · simp
  split <;> simp
theorem nI_m1 {u : Nat} (h : u < 2 ^ 31) : ¬ (-1 : Int32) = nI u := fun e => nI_pos h (by rw [← e]; decide)
theorem cl_locksOwnedBy0 (ht : t < 6) (ho : cw_okr K) : ∀ n i y, i + n = 8 → sh_cW A md_Hall_locksOwnedBy (4, [(0, .ref (A 0)), (1, .ref (A (10 + t))), (2, .int y), (3, .int (nI i))], []) K L 0 0 (.inl (some (.int ((List.range' i n).foldl (sp_o1 K t) y)))) K L := by
  intro n
  induction n with
  | zero => intro i y hi; exact cb_Hall_locksOwnedBy_e_4_1 ht (sp_x8 (by omega))
  | succ n ih =>
    intro i y hi
    rw [List.range'_succ, List.foldl_cons]
    have hx := sp_n8 (i := i) (by omega)
    have hi8 : i < 8 := by omega
    by_cases e : cw_cl (K 12 i) = 4
    · have hz : ¬ cw_cl (K 12 i) = 0 := by rw [e]; decide
      rcases ho i hi8 with h | ⟨u, hu, h⟩
      · rw [show sp_o1 K t y i = y from if_neg (fun q => nI_m1 (u := t) (by omega) (h ▸ q.2))]
        exact cb_Hall_locksOwnedBy_4_2 ht hi8 hx hz e h (ih (i + 1) y (by omega))
      · by_cases f : u = t
        · rw [show sp_o1 K t y i = _ from if_pos ⟨e, by rw [h, f]⟩]
          exact cb_Hall_locksOwnedBy_4_3 ht hi8 hx hz e hu h f (ih (i + 1) _ (by omega))
        · rw [show sp_o1 K t y i = y from if_neg (fun q => f ((nI_eq (by omega) (by omega)).mp (h.symm.trans q.2)))]
          exact cb_Hall_locksOwnedBy_4_4 ht hi8 hx hz e hu h f (ih (i + 1) y (by omega))
    · rw [show sp_o1 K t y i = y from if_neg (fun q => e q.1)]
      have hN := ih (i + 1) y (by omega)
      rcases cw_cl_cases (K 12 i) with h | h | h | h | h | h
      · exact cb_Hall_locksOwnedBy_4_1 ht hi8 hx h hN
      · exact absurd h e
      · exact cb_Hall_locksOwnedBy_4_5 ht hi8 hx (by rw [h]; decide) h hN
      · exact cb_Hall_locksOwnedBy_4_6 ht hi8 hx (by rw [h]; decide) h hN
      · exact cb_Hall_locksOwnedBy_4_7 ht hi8 hx (by rw [h]; decide) h hN
      · exact cb_Hall_locksOwnedBy_4_8 ht hi8 hx (by rw [h]; decide) h hN
theorem cl_locksOwnedBy (ht : t < 6) (ho : cw_okr K) : sh_cM A md_Hall_locksOwnedBy [.ref (A 0), .ref (A (10 + t))] K L (.inl (some (.int (sp_own K t)))) K L := cb_Hall_locksOwnedBy_p_0_1 ht (cl_locksOwnedBy0 ht ho 8 0 0 rfl)
/-- is i late, and before b? -/
def sp_l1 (X : sh_II) (Y : sh_DD) (b : Option Nat) (i : Nat) : Option Nat :=
  if X 26 i = 0 then b else if 0 < Op.cmpValue (FP.dcmp (Y 7 i) (Y 11 0)) .g then b else match b with
  | none => some i
  | some j => if 0 ≤ Op.cmpValue (FP.dcmp (Y 7 i) (Y 7 j)) .g then some j else some i
def sp_late (X : sh_II) (Y : sh_DD) : Option Nat := (List.range' 0 6).foldl (sp_l1 X Y) none
theorem cl_nextLate0 : ∀ n i (b : Option Nat), i + n = 6 → (∀ j, b = some j → j < 6) → sh_cW A md_Hall_nextLate (4, [(0, .ref (A 0)), (1, va_rf (b.map fun u => A (10 + u))), (2, .int (nI i))], []) K L 0 0 (.inl (some (va_rf (((List.range' i n).foldl (sp_l1 K L) b).map fun u => A (10 + u))))) K L := by
  intro n
  induction n with
  | zero =>
    intro i b hi hb
    cases b with
    | none => exact cb_Hall_nextLate_en_4_1 (sp_x6 (by omega))
    | some j => exact cb_Hall_nextLate_eb_4_1 (hb j rfl) (sp_x6 (by omega))
  | succ n ih =>
    intro i b hi hb
    rw [List.range'_succ, List.foldl_cons]
    have hx := sp_n6 (i := i) (by omega)
    have hi6 : i < 6 := by omega
    have hN := fun (b' : Option Nat) (h : ∀ j, b' = some j → j < 6) => ih (i + 1) b' (by omega) h
    have hsi : ∀ j, some i = some j → j < 6 := fun j q => by cases q; exact hi6
    by_cases e1 : K 26 i = 0
    · rw [show sp_l1 K L b i = b from if_pos e1]
      cases b with
      | none => exact cb_Hall_nextLate_n_4_1 hi6 hx e1 (hN _ hb)
      | some j => exact cb_Hall_nextLate_b_4_1 (hb j rfl) hi6 hx e1 (hN _ hb)
    · by_cases e2 : 0 < Op.cmpValue (FP.dcmp (L 7 i) (L 11 0)) .g
      · rw [show sp_l1 K L b i = b by unfold sp_l1; rw [if_neg e1, if_pos e2]]
        cases b with
        | none => exact cb_Hall_nextLate_n_4_2 hi6 hx e1 e2 (hN _ hb)
        | some j => exact cb_Hall_nextLate_b_4_2 (hb j rfl) hi6 hx e1 e2 (hN _ hb)
      · cases b with
        | none =>
          rw [show sp_l1 K L none i = some i by unfold sp_l1; rw [if_neg e1, if_neg e2]]
          exact cb_Hall_nextLate_n_4_3 hi6 hx e1 e2 (hN _ hsi)
        | some j =>
          by_cases e3 : 0 ≤ Op.cmpValue (FP.dcmp (L 7 i) (L 7 j)) .g
          · rw [show sp_l1 K L (some j) i = some j by unfold sp_l1; rw [if_neg e1, if_neg e2]; exact if_pos e3]
            exact cb_Hall_nextLate_b_4_3 (hb j rfl) hi6 hx e1 e2 e3 (hN _ hb)
          · rw [show sp_l1 K L (some j) i = some i by unfold sp_l1; rw [if_neg e1, if_neg e2]; exact if_neg e3]
            exact cb_Hall_nextLate_b_4_4 (hb j rfl) hi6 hx e1 e2 e3 (hN _ hsi)
theorem cl_nextLate : sh_cM A md_Hall_nextLate [.ref (A 0)] K L (.inl (some (va_rf ((sp_late K L).map fun u => A (10 + u))))) K L := cb_Hall_nextLate_p_0_1 (cl_nextLate0 6 0 none rfl (fun j h => by cases h))
end CLO
