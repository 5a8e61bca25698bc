/-! the reference: who is late first; which lock leads to which -/
def sp_ml1 (X : sh_II) (Y : sh_DD) (b : Option Nat) (i : Nat) : Option Nat :=
  if X 1 i = 0 then b else if Op.cmpValue (FP.dcmp (Y 7 i) FP.dconst0) .l < 0 then b else if 0 < Op.cmpValue (FP.dcmp (Y 7 i) (Y 11 0)) .g then b else match b with
  | none => some i
  | some j => if 0 ≤ Op.cmpValue (FP.dcmp (Y 7 i) (Y 7 j)) .g then some j else some i
def sp_mlate (X : sh_II) (Y : sh_DD) : Option Nat := (List.range' 0 6).foldl (sp_ml1 X Y) none
def sp_oi (o : Option Nat) : Int32 := match o with
  | none => -1
  | some u => nI u
section MWA
variable {mq : Nat} {A : Nat → Nat} {I : sh_II} {D : sh_DD}
theorem ml_latest0 : ∀ n i (b : Option Nat), i + n = 6 → (∀ j, b = some j → j < 6) → sh_mW mq A md_Mod_latest (4, [(0, .ref mq), (1, .int (sp_oi b)), (2, .int (nI i))], []) I D 0 0 (some (.int (sp_oi ((List.range' i n).foldl (sp_ml1 I D) b)))) I D := by
  intro n
  induction n with
  | zero =>
    intro i b hi hb
    cases b with
    | none => exact mb_Mod_latest_en_4_1 (sp_x6 (by omega))
    | some j => exact mb_Mod_latest_eb_4_1 (hb j rfl) (sp_x6 (by omega))
  | succ n ih =>
    intro i b hi hb
    rw [List.range'_succ, List.foldl_cons]
    have hx := sp_n6 (i := i) (by omega)
    have hi6 : i < 6 := by omega
    have hN := fun (b' : Option Nat) (h : ∀ j, b' = some j → j < 6) => ih (i + 1) b' (by omega) h
    have hsi : ∀ j, some i = some j → j < 6 := fun j q => by cases q; exact hi6
    by_cases e1 : I 1 i = 0
    · rw [show sp_ml1 I D b i = b from if_pos e1]
      cases b with
      | none => exact mb_Mod_latest_n_4_1 hi6 hx e1 (hN _ hb)
      | some j => exact mb_Mod_latest_b_4_1 (hb j rfl) hi6 hx e1 (hN _ hb)
    by_cases e0 : Op.cmpValue (FP.dcmp (D 7 i) FP.dconst0) .l < 0
    · rw [show sp_ml1 I D b i = b by unfold sp_ml1; rw [if_neg e1, if_pos e0]]
      cases b with
      | none => exact mb_Mod_latest_n_4_2 hi6 hx e1 e0 (hN _ hb)
      | some j => exact mb_Mod_latest_b_4_2 (hb j rfl) hi6 hx e1 e0 (hN _ hb)
    by_cases e2 : 0 < Op.cmpValue (FP.dcmp (D 7 i) (D 11 0)) .g
    · rw [show sp_ml1 I D b i = b by unfold sp_ml1; rw [if_neg e1, if_neg e0, if_pos e2]]
      cases b with
      | none => exact mb_Mod_latest_n_4_3 hi6 hx e1 e0 e2 (hN _ hb)
      | some j => exact mb_Mod_latest_b_4_3 (hb j rfl) hi6 hx e1 e0 e2 (hN _ hb)
    cases b with
    | none =>
      rw [show sp_ml1 I D none i = some i by unfold sp_ml1; rw [if_neg e1, if_neg e0, if_neg e2]]
      exact mb_Mod_latest_n_4_4 hi6 hx e1 e0 e2 (hN _ hsi)
    | some j =>
      by_cases e3 : 0 ≤ Op.cmpValue (FP.dcmp (D 7 i) (D 7 j)) .g
      · rw [show sp_ml1 I D (some j) i = some j by unfold sp_ml1; rw [if_neg e1, if_neg e0, if_neg e2]; exact if_pos e3]
        exact mb_Mod_latest_b_4_4 (hb j rfl) hi6 hx e1 e0 e2 e3 (hN _ hb)
      · rw [show sp_ml1 I D (some j) i = some i by unfold sp_ml1; rw [if_neg e1, if_neg e0, if_neg e2]; exact if_neg e3]
        exact mb_Mod_latest_b_4_5 (hb j rfl) hi6 hx e1 e0 e2 e3 (hN _ hsi)
theorem ml_latest : sh_mM mq A md_Mod_latest [.ref mq] I D (some (.int (sp_oi (sp_mlate I D)))) I D := mb_Mod_latest_p_0_1 (ml_latest0 6 0 none rfl (fun j h => by cases h))
def ld_1 (j : Nat) (X : sh_II) (r : Nat) : sh_II := if X 22 (8 * j + r) = 0 then X else sh_u2 X 23 r 1
def ld_r (X : sh_II) (j r n : Nat) : sh_II := if X 23 j = 0 then X else (List.range' r n).foldl (ld_1 j) X
def ld_2 (X : sh_II) (j : Nat) : sh_II := ld_r X j 0 8
def ld_3 (X : sh_II) : sh_II := (List.range' 0 8).foldl ld_2 X
def ld_it : Nat → sh_II → sh_II
  | 0, X => X
  | n + 1, X => ld_it n (ld_3 X)
def ld_0 (a : Nat) (X : sh_II) (i : Nat) : sh_II := sh_u2 X 23 i (X 22 (8 * a + i))
def ld_s (X : sh_II) (a : Nat) : sh_II := (List.range' 0 8).foldl (ld_0 a) X
def sp_ld (X : sh_II) (a : Nat) : sh_II := ld_it 8 (ld_s X a)
theorem ld_1_keep {j r : Nat} {X : sh_II} {q : Nat} (h : q ≠ 23) (c : Nat) : ld_1 j X r q c = X q c := by
  unfold ld_1
  split
  · rfl
  · exact sh_u2_row h c
theorem ld_f1_keep {j q : Nat} (h : q ≠ 23) (c : Nat) : ∀ (z : List Nat) (X : sh_II), z.foldl (ld_1 j) X q c = X q c := by
  intro z
  induction z with
  | nil => intro X; rfl
  | cons a z ih => intro X; rw [List.foldl_cons, ih, ld_1_keep h]
theorem ld_2_keep {j q : Nat} {X : sh_II} (h : q ≠ 23) (c : Nat) : ld_2 X j q c = X q c := by
  unfold ld_2 ld_r
  split
  · rfl
  · exact ld_f1_keep h c _ _
theorem ld_3_keep {q : Nat} (h : q ≠ 23) (c : Nat) (X : sh_II) : ld_3 X q c = X q c := by
  unfold ld_3
  generalize List.range' 0 8 = z
  induction z generalizing X with
  | nil => rfl
  | cons a z ih => rw [List.foldl_cons, ih, ld_2_keep h]
theorem ld_it_keep {q : Nat} (h : q ≠ 23) (c : Nat) : ∀ (n : Nat) (X : sh_II), ld_it n X q c = X q c := by
  intro n
  induction n with
  | zero => intro X; rfl
  | succ n ih => intro X; rw [ld_it, ih, ld_3_keep h]
theorem ld_s_keep {a q : Nat} (h : q ≠ 23) (c : Nat) (X : sh_II) : ld_s X a q c = X q c := by
  unfold ld_s
  generalize List.range' 0 8 = z
  induction z generalizing X with
  | nil => rfl
  | cons a z ih => rw [List.foldl_cons, ih]; exact sh_u2_row h c
theorem sp_ld_keep {a q : Nat} {X : sh_II} (h : q ≠ 23) (c : Nat) : sp_ld X a q c = X q c := by unfold sp_ld; rw [ld_it_keep h, ld_s_keep h]
/-- the numbers of a row are booleans -/
def sp_bool (X : sh_II) (q n : Nat) : Prop := ∀ c, c < n → X q c = 0 ∨ X q c = 1
theorem sp_bool_1 {X : sh_II} {i n : Nat} {v : Int32} (h : sp_bool X 23 n) (hv : v = 0 ∨ v = 1) : sp_bool (sh_u2 X 23 i v) 23 n := fun c hc => by
  by_cases e : c = i
  · subst e; rw [sh_u2_eq]; exact hv
  · rw [sh_u2_col e]; exact h c hc
theorem sp_bool_f1 {j n : Nat} : ∀ (z : List Nat) (X : sh_II), sp_bool X 23 n → sp_bool (z.foldl (ld_1 j) X) 23 n := by
  intro z
  induction z with
  | nil => intro X h; exact h
  | cons a z ih =>
    intro X h
    refine ih _ ?_
    unfold ld_1
    split
    · exact h
    · exact sp_bool_1 h (Or.inr rfl)
theorem sp_bool_2 {j n : Nat} {X : sh_II} (h : sp_bool X 23 n) : sp_bool (ld_2 X j) 23 n := by
  unfold ld_2 ld_r
  split
  · exact h
  · exact sp_bool_f1 _ _ h
theorem sp_bool_3 {n : Nat} {X : sh_II} (h : sp_bool X 23 n) : sp_bool (ld_3 X) 23 n := by
  unfold ld_3
  generalize List.range' 0 8 = z
  induction z generalizing X with
  | nil => exact h
  | cons a z ih => exact ih (sp_bool_2 h)
theorem sp_bool_it {n : Nat} : ∀ (k : Nat) (X : sh_II), sp_bool X 23 n → sp_bool (ld_it k X) 23 n := by
  intro k
  induction k with
  | zero => intro X h; exact h
  | succ k ih => intro X h; exact ih _ (sp_bool_3 h)
theorem sp_bool_s0 {a : Nat} : ∀ (n i : Nat) (X : sh_II), i + n = 8 → (∀ c, c < 64 → X 22 c = 0 ∨ X 22 c = 1) → a < 8 → (∀ c, c < i → X 23 c = 0 ∨ X 23 c = 1) → sp_bool ((List.range' i n).foldl (ld_0 a) X) 23 8 := by
  intro n
  induction n with
  | zero => intro i X hi _ _ h c hc; exact h c (by omega)
  | succ n ih =>
    intro i X hi h22 ha h
    rw [List.range'_succ, List.foldl_cons]
    refine ih (i + 1) _ (by omega) (fun c hc => by unfold ld_0; rw [sh_u2_row (by decide)]; exact h22 c hc) ha (fun c hc => ?_)
    unfold ld_0
    by_cases e : c = i
    · subst e; rw [sh_u2_eq]; exact h22 _ (by omega)
    · rw [sh_u2_col e]; exact h c (by omega)
theorem sp_bool_ld {a : Nat} {X : sh_II} (ha : a < 8) (h22 : ∀ c, c < 64 → X 22 c = 0 ∨ X 22 c = 1) : sp_bool (sp_ld X a) 23 8 := sp_bool_it _ _ (sp_bool_s0 8 0 X rfl h22 ha (fun c hc => by omega))
variable {I9 : sh_II} {D9 : sh_DD} {v9 : Option Value} {a b i j : Nat}
theorem ml_leads52 (ha : a < 8) (hb : b < 8) (hj : j < 8) : ∀ n r (X : sh_II), r + n = 8 → sh_mW mq A md_Mod_leads (42, [(0, .ref mq), (1, .int (nI a)), (2, .int (nI b)), (3, .int (nI i)), (4, .int (nI (j + 1)))], []) (ld_r X j r n) D 0 0 v9 I9 D9 → sh_mW mq A md_Mod_leads (52, [(0, .ref mq), (1, .int (nI a)), (2, .int (nI b)), (3, .int (nI i)), (4, .int (nI j)), (5, .int (nI r))], []) X D 0 0 v9 I9 D9 := by
  intro n
  induction n with
  | zero =>
    intro r X hr k
    refine mb_Mod_leads_e_52_1 ha hb hj (sp_x8 (by omega)) ?_
    rw [show ld_r X j r 0 = X by unfold ld_r; split <;> rfl] at k
    exact k
  | succ n ih =>
    intro r X hr k
    have hy := sp_n8 (i := r) (by omega)
    by_cases e : X 23 j = 0
    · rw [show ld_r X j r (n + 1) = X from if_pos e] at k
      exact mb_Mod_leads_52_1 ha hb hj (by omega) hy e k
    · rw [show ld_r X j r (n + 1) = (List.range' (r + 1) n).foldl (ld_1 j) (ld_1 j X r) by unfold ld_r; rw [if_neg e, List.range'_succ, List.foldl_cons]] at k
      by_cases f : X 22 (8 * j + r) = 0
      · rw [show ld_1 j X r = X from if_pos f] at k
        exact mb_Mod_leads_52_2 ha hb hj (by omega) hy e f (ih (r + 1) X (by omega) (by rw [show ld_r X j (r + 1) n = _ from if_neg e]; exact k))
      · rw [show ld_1 j X r = sh_u2 X 23 r 1 from if_neg f] at k
        have e' : ¬ sh_u2 X 23 r 1 23 j = 0 := by
          by_cases q : j = r
          · rw [q, sh_u2_eq]; decide
          · rw [sh_u2_col q]; exact e
        exact mb_Mod_leads_52_3 ha hb hj (by omega) hy e f (ih (r + 1) _ (by omega) (by rw [show ld_r (sh_u2 X 23 r 1) j (r + 1) n = _ from if_neg e']; exact k))
theorem ml_leads42 (ha : a < 8) (hb : b < 8) : ∀ n j (X : sh_II), j + n = 8 → sh_mW mq A md_Mod_leads (33, [(0, .ref mq), (1, .int (nI a)), (2, .int (nI b)), (3, .int (nI (i + 1)))], []) ((List.range' j n).foldl ld_2 X) D 0 0 v9 I9 D9 → sh_mW mq A md_Mod_leads (42, [(0, .ref mq), (1, .int (nI a)), (2, .int (nI b)), (3, .int (nI i)), (4, .int (nI j))], []) X D 0 0 v9 I9 D9 := by
  intro n
  induction n with
  | zero => intro j X hj k; exact mb_Mod_leads_e_42_1 ha hb (sp_x8 (by omega)) k
  | succ n ih =>
    intro j X hj k
    rw [List.range'_succ, List.foldl_cons] at k
    exact mb_Mod_leads_42_1 ha hb (by omega) (sp_n8 (by omega)) (ml_leads52 ha hb (by omega) 8 0 X rfl (ih (j + 1) (ld_2 X j) (by omega) k))
theorem sp_nar {x : Int32} (h : x = 0 ∨ x = 1) : narrow .boolean (.int x) = .int x := by rcases h with rfl | rfl <;> rfl
theorem ml_leads33 (ha : a < 8) (hb : b < 8) : ∀ n i (X : sh_II), i + n = 8 → sp_bool X 23 8 → sh_mW mq A md_Mod_leads (33, [(0, .ref mq), (1, .int (nI a)), (2, .int (nI b)), (3, .int (nI i))], []) X D 0 0 (some (.int (ld_it n X 23 b))) (ld_it n X) D := by
  intro n
  induction n with
  | zero => intro i X hi h; exact mb_Mod_leads_e_33_1 ha hb (sp_x8 (by omega)) (sp_nar (h b hb))
  | succ n ih => intro i X hi h; exact mb_Mod_leads_33_1 ha hb (by omega) (sp_n8 (by omega)) (ml_leads42 ha hb 8 0 X rfl (ih (i + 1) (ld_3 X) (by omega) (sp_bool_3 h)))
theorem ml_leads2 (ha : a < 8) (hb : b < 8) : ∀ n i (X : sh_II), i + n = 8 → (∀ c, c < 64 → X 22 c = 0 ∨ X 22 c = 1) → sh_mW mq A md_Mod_leads (33, [(0, .ref mq), (1, .int (nI a)), (2, .int (nI b)), (3, .int (nI 0))], []) ((List.range' i n).foldl (ld_0 a) X) D 0 0 v9 I9 D9 → sh_mW mq A md_Mod_leads (2, [(0, .ref mq), (1, .int (nI a)), (2, .int (nI b)), (3, .int (nI i))], []) X D 0 0 v9 I9 D9 := by
  intro n
  induction n with
  | zero => intro i X hi h k; exact mb_Mod_leads_e_2_1 ha hb (sp_x8 (by omega)) k
  | succ n ih =>
    intro i X hi h k
    rw [List.range'_succ, List.foldl_cons] at k
    exact mb_Mod_leads_2_1 ha hb (by omega) (sp_n8 (by omega)) (h _ (by omega)) (ih (i + 1) (ld_0 a X i) (by omega) (fun c hc => by unfold ld_0; rw [sh_u2_row (by decide)]; exact h c hc) k)
theorem ml_leads (ha : a < 8) (hb : b < 8) (h22 : ∀ c, c < 64 → I 22 c = 0 ∨ I 22 c = 1) : sh_mM mq A md_Mod_leads [.ref mq, .int (nI a), .int (nI b)] I D (some (.int (sp_ld I a 23 b))) (sp_ld I a) D :=
  mb_Mod_leads_p_0_1 ha hb (ml_leads2 ha hb 8 0 I rfl h22 (ml_leads33 ha hb 8 0 _ rfl (sp_bool_s0 8 0 I rfl h22 ha (fun c hc => by omega))))
end MWA
