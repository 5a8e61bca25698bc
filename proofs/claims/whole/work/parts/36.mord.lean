/-! the reference's watch over the order -/
def ld_E (X Y : sh_II) : Prop := (∀ c, X 22 c = Y 22 c) ∧ ∀ c, c < 8 → X 23 c = Y 23 c
theorem ld_E_1 {X Y : sh_II} {j r : Nat} (h : ld_E X Y) : ld_E (ld_1 j X r) (ld_1 j Y r) := by
  unfold ld_1
  rw [h.1]
  split
  · exact h
  · refine ⟨fun c => by rw [sh_u2_row (by decide), sh_u2_row (by decide)]; exact h.1 c, fun c hc => ?_⟩
    by_cases e : c = r
    · subst e; rw [sh_u2_eq, sh_u2_eq]
    · rw [sh_u2_col e, sh_u2_col e]; exact h.2 c hc
theorem ld_E_f1 {j : Nat} : ∀ (z : List Nat) (X Y : sh_II), ld_E X Y → ld_E (z.foldl (ld_1 j) X) (z.foldl (ld_1 j) Y) := by
  intro z
  induction z with
  | nil => intro X Y h; exact h
  | cons a z ih => intro X Y h; exact ih _ _ (ld_E_1 h)
theorem ld_E_2 {X Y : sh_II} {j : Nat} (hj : j < 8) (h : ld_E X Y) : ld_E (ld_2 X j) (ld_2 Y j) := by
  unfold ld_2 ld_r
  rw [h.2 j hj]
  split
  · exact h
  · exact ld_E_f1 _ _ _ h
theorem ld_E_3 {X Y : sh_II} (h : ld_E X Y) : ld_E (ld_3 X) (ld_3 Y) := by
  unfold ld_3
  have : ∀ (z : List Nat), (∀ a ∈ z, a < 8) → ∀ (X Y : sh_II), ld_E X Y → ld_E (z.foldl ld_2 X) (z.foldl ld_2 Y) := by
    intro z
    induction z with
    | nil => intro _ X Y h; exact h
    | cons a z ih => intro hz X Y h; exact ih (fun b hb => hz b (List.mem_cons_of_mem _ hb)) _ _ (ld_E_2 (hz a (by simp)) h)
  exact this _ (fun a ha => by have := List.mem_range'.mp ha; omega) X Y h
theorem ld_E_it : ∀ (n : Nat) (X Y : sh_II), ld_E X Y → ld_E (ld_it n X) (ld_it n Y) := by
  intro n
  induction n with
  | zero => intro X Y h; exact h
  | succ n ih => intro X Y h; exact ih _ _ (ld_E_3 h)
theorem ld_E_s {a : Nat} : ∀ (n i : Nat) (X Y : sh_II), i + n = 8 → (∀ c, X 22 c = Y 22 c) → (∀ c, c < i → X 23 c = Y 23 c) → ld_E ((List.range' i n).foldl (ld_0 a) X) ((List.range' i n).foldl (ld_0 a) Y) := by
  intro n
  induction n with
  | zero => intro i X Y hi h1 h2; exact ⟨h1, fun c hc => h2 c (by omega)⟩
  | succ n ih =>
    intro i X Y hi h1 h2
    rw [List.range'_succ, List.foldl_cons, List.foldl_cons]
    refine ih (i + 1) _ _ (by omega) (fun c => by unfold ld_0; rw [sh_u2_row (by decide), sh_u2_row (by decide)]; exact h1 c) (fun c hc => ?_)
    unfold ld_0
    by_cases e : c = i
    · subst e; rw [sh_u2_eq, sh_u2_eq]; exact h1 _
    · rw [sh_u2_col e, sh_u2_col e]; exact h2 c (by omega)
theorem sp_ld_congr {X Y : sh_II} {a : Nat} (h : ∀ c, X 22 c = Y 22 c) {c : Nat} (hc : c < 8) : sp_ld X a 23 c = sp_ld Y a 23 c := (ld_E_it 8 _ _ (ld_E_s 8 0 X Y rfl h (fun c hc => by omega))).2 c hc
def od_c (X : sh_II) (t i : Nat) : Bool := decide ((X 12 i = 0 ∨ X 12 i = 1) ∧ X 13 i = nI t)
def od_1 (t s : Nat) (X : sh_II) (i : Nat) : sh_II := if od_c X t i = true then sh_u2 X 22 (8 * i + s) 1 else X
def sp_mput (X : sh_II) (t s : Nat) : sh_II := (List.range' 0 8).foldl (od_1 t s) X
def od_a (X : sh_II) (t s i n : Nat) : Bool := (List.range' i n).any (fun o => od_c X t o && decide (¬ sp_ld X s 23 o = 0))
theorem od_a_congr {X Y : sh_II} {t s i n : Nat} (h : ∀ r c, r ≠ 23 → X r c = Y r c) (hi : i + n ≤ 8) : od_a X t s i n = od_a Y t s i n := by
  induction n generalizing i with
  | zero => rfl
  | succ n ih =>
    have e := ih (i := i + 1) (by omega)
    unfold od_a at e ⊢
    rw [List.range'_succ, List.any_cons, List.any_cons, e, sp_ld_congr (a := s) (fun c => h 22 c (by decide)) (c := i) (by omega)]
    simp only [od_c, h 12 i (by decide), h 13 i (by decide)]
section MOR
variable {mq : Nat} {A : Nat → Nat} {I : sh_II} {D : sh_DD} {s t : Nat}
theorem ml_ord118 (ht : t < 6) (hs : s < 8) : ∀ n i (X : sh_II), i + n = 8 → sh_mW mq A md_Mod_ordered (118, [(0, .ref mq), (1, .int (nI t)), (2, .int (nI s)), (4, .int (nI i))], []) X D 0 0 (some (.int 1)) ((List.range' i n).foldl (od_1 t s) X) D := by
  intro n
  induction n with
  | zero => intro i X hi; exact mb_Mod_ordered_e_118_1 ht hs (sp_x8 (by omega))
  | succ n ih =>
    intro i X hi
    rw [List.range'_succ, List.foldl_cons]
    have hx := sp_n8 (i := i) (by omega)
    have hi8 : i < 8 := by omega
    have hN := fun X' => ih (i + 1) X' (by omega)
    by_cases h0 : X 12 i = 0
    · have hz : ¬ X 12 i < 0 := by rw [h0]; decide
      by_cases g : X 13 i = nI t
      · rw [show od_1 t s X i = _ from if_pos (decide_eq_true ⟨Or.inl h0, g⟩)]
        exact mb_Mod_ordered_118_2 ht hs hi8 hx hz h0 g (hN _)
      · rw [show od_1 t s X i = X from if_neg (by simp [od_c, g])]
        exact mb_Mod_ordered_118_3 ht hs hi8 hx hz h0 g (hN _)
    by_cases h1 : X 12 i = 1
    · have hz : ¬ X 12 i < 0 := by rw [h1]; decide
      by_cases g : X 13 i = nI t
      · rw [show od_1 t s X i = _ from if_pos (decide_eq_true ⟨Or.inr h1, g⟩)]
        exact mb_Mod_ordered_118_4 ht hs hi8 hx hz h0 h1 g (hN _)
      · rw [show od_1 t s X i = X from if_neg (by simp [od_c, g])]
        exact mb_Mod_ordered_118_5 ht hs hi8 hx hz h0 h1 g (hN _)
    rw [show od_1 t s X i = X from if_neg (by simp [od_c, h0, h1])]
    by_cases hz : X 12 i < 0
    · exact mb_Mod_ordered_118_1 ht hs hi8 hx hz (hN _)
    · exact mb_Mod_ordered_118_6 ht hs hi8 hx hz h0 h1 (hN _)
theorem ml_ord32 (ht : t < 6) (hs : s < 8) : ∀ n i (X : sh_II) (y : Int32), i + n = 8 → (∀ c, c < 64 → X 22 c = 0 ∨ X 22 c = 1) → ∃ X' : sh_II, (∀ r c, r ≠ 23 → X' r c = X r c) ∧ ∀ (v9 : Option Value) (I9 : sh_II) (D9 : sh_DD), sh_mW mq A md_Mod_ordered (32, [(0, .ref mq), (1, .int (nI t)), (2, .int (nI s)), (3, .int (if od_a X t s i n = true then 1 else y)), (4, .int (nI 8))], []) X' D 0 0 v9 I9 D9 → sh_mW mq A md_Mod_ordered (32, [(0, .ref mq), (1, .int (nI t)), (2, .int (nI s)), (3, .int y), (4, .int (nI i))], []) X D 0 0 v9 I9 D9 := by
  intro n
  induction n with
  | zero =>
    intro i X y hi h22
    refine ⟨X, fun r c _ => rfl, fun v9 I9 D9 k => ?_⟩
    rw [show i = 8 by omega]
    exact k
  | succ n ih =>
    intro i X y hi h22
    have hx := sp_n8 (i := i) (by omega)
    have hi8 : i < 8 := by omega
    have split : od_a X t s i (n + 1) = ((od_c X t i && decide (¬ sp_ld X s 23 i = 0)) || od_a X t s (i + 1) n) := by unfold od_a; rw [List.range'_succ, List.any_cons]
    -- the two ways on
    have stay : od_c X t i = false → ∃ X' : sh_II, (∀ r c, r ≠ 23 → X' r c = X r c) ∧ ∀ (v9 : Option Value) (I9 : sh_II) (D9 : sh_DD), sh_mW mq A md_Mod_ordered (32, [(0, .ref mq), (1, .int (nI t)), (2, .int (nI s)), (3, .int (if od_a X t s i (n + 1) = true then 1 else y)), (4, .int (nI 8))], []) X' D 0 0 v9 I9 D9 → sh_mW mq A md_Mod_ordered (32, [(0, .ref mq), (1, .int (nI t)), (2, .int (nI s)), (3, .int y), (4, .int (nI (i + 1)))], []) X D 0 0 v9 I9 D9 := by
      intro hc
      obtain ⟨X', h1, h2⟩ := ih (i + 1) X y (by omega) h22
      refine ⟨X', h1, fun v9 I9 D9 k => h2 v9 I9 D9 ?_⟩
      rw [split, hc, Bool.false_and, Bool.false_or] at k
      exact k
    have move : ∀ y1, od_c X t i = true → (if od_a X t s i (n + 1) = true then (1 : Int32) else y) = (if od_a X t s (i + 1) n = true then 1 else y1) → ∃ X' : sh_II, (∀ r c, r ≠ 23 → X' r c = X r c) ∧ ∀ (v9 : Option Value) (I9 : sh_II) (D9 : sh_DD), sh_mW mq A md_Mod_ordered (32, [(0, .ref mq), (1, .int (nI t)), (2, .int (nI s)), (3, .int (if od_a X t s i (n + 1) = true then 1 else y)), (4, .int (nI 8))], []) X' D 0 0 v9 I9 D9 → sh_mW mq A md_Mod_ordered (32, [(0, .ref mq), (1, .int (nI t)), (2, .int (nI s)), (3, .int y1), (4, .int (nI (i + 1)))], []) (sp_ld X s) D 0 0 v9 I9 D9 := by
      intro y1 hc he
      have hk : ∀ r c, r ≠ 23 → sp_ld X s r c = X r c := fun r c h => sp_ld_keep h c
      obtain ⟨X', h1, h2⟩ := ih (i + 1) (sp_ld X s) y1 (by omega) (fun c hc => by rw [hk 22 c (by decide)]; exact h22 c hc)
      refine ⟨X', fun r c h => (h1 r c h).trans (hk r c h), fun v9 I9 D9 k => h2 v9 I9 D9 ?_⟩
      rw [od_a_congr hk (by omega), ← he]
      exact k
    have y1T : od_c X t i = true → ¬ sp_ld X s 23 i = 0 → (if od_a X t s i (n + 1) = true then (1 : Int32) else y) = (if od_a X t s (i + 1) n = true then 1 else 1) := fun hc hl => by rw [split, hc, Bool.true_and, decide_eq_true hl, Bool.true_or]; simp
    have y1F : od_c X t i = true → sp_ld X s 23 i = 0 → (if od_a X t s i (n + 1) = true then (1 : Int32) else y) = (if od_a X t s (i + 1) n = true then 1 else y) := fun hc hl => by rw [split, hc, Bool.true_and, show decide (¬ sp_ld X s 23 i = 0) = false by simp [hl], Bool.false_or]
    by_cases h0 : X 12 i = 0
    · have hz : ¬ X 12 i < 0 := by rw [h0]; decide
      by_cases g : X 13 i = nI t
      · have hc : od_c X t i = true := decide_eq_true ⟨Or.inl h0, g⟩
        by_cases hl : sp_ld X s 23 i = 0
        · obtain ⟨X', h1, h2⟩ := move y hc (y1F hc hl)
          exact ⟨X', h1, fun v9 I9 D9 k => mb_Mod_ordered_32_2 ht hs hi8 hx h22 hz h0 g hl (h2 v9 I9 D9 k)⟩
        · obtain ⟨X', h1, h2⟩ := move 1 hc (y1T hc hl)
          exact ⟨X', h1, fun v9 I9 D9 k => mb_Mod_ordered_32_3 ht hs hi8 hx h22 hz h0 g hl (h2 v9 I9 D9 k)⟩
      · obtain ⟨X', h1, h2⟩ := stay (by simp [od_c, g])
        exact ⟨X', h1, fun v9 I9 D9 k => mb_Mod_ordered_32_4 ht hs hi8 hx h22 hz h0 g (h2 v9 I9 D9 k)⟩
    by_cases h1' : X 12 i = 1
    · have hz : ¬ X 12 i < 0 := by rw [h1']; decide
      by_cases g : X 13 i = nI t
      · have hc : od_c X t i = true := decide_eq_true ⟨Or.inr h1', g⟩
        by_cases hl : sp_ld X s 23 i = 0
        · obtain ⟨X', h1, h2⟩ := move y hc (y1F hc hl)
          exact ⟨X', h1, fun v9 I9 D9 k => mb_Mod_ordered_32_5 ht hs hi8 hx h22 hz h0 h1' g hl (h2 v9 I9 D9 k)⟩
        · obtain ⟨X', h1, h2⟩ := move 1 hc (y1T hc hl)
          exact ⟨X', h1, fun v9 I9 D9 k => mb_Mod_ordered_32_6 ht hs hi8 hx h22 hz h0 h1' g hl (h2 v9 I9 D9 k)⟩
      · obtain ⟨X', h1, h2⟩ := stay (by simp [od_c, g])
        exact ⟨X', h1, fun v9 I9 D9 k => mb_Mod_ordered_32_7 ht hs hi8 hx h22 hz h0 h1' g (h2 v9 I9 D9 k)⟩
    obtain ⟨X', h1, h2⟩ := stay (by simp [od_c, h0, h1'])
    by_cases hz : X 12 i < 0
    · exact ⟨X', h1, fun v9 I9 D9 k => mb_Mod_ordered_32_1 ht hs hi8 hx h22 hz (h2 v9 I9 D9 k)⟩
    · exact ⟨X', h1, fun v9 I9 D9 k => mb_Mod_ordered_32_8 ht hs hi8 hx h22 hz h0 h1' (h2 v9 I9 D9 k)⟩
/-- is it watched? would it warn? does it refuse? -/
def sp_mkw (X : sh_II) (t s : Nat) : Bool := decide (¬ X 24 0 = 0 ∧ (X 12 s = 0 ∨ X 12 s = 1) ∧ ¬ X 13 s = nI t)
def sp_mkb (X : sh_II) (t s : Nat) : Bool := od_a X t s 0 8
def sp_mkt (X : sh_II) (t s : Nat) : Bool := sp_mkw X t s && sp_mkb X t s && decide (X 24 0 = 2)
def sp_mko (X : sh_II) (t s : Nat) : sh_II := if sp_mkw X t s = true then sp_mput (if sp_mkb X t s = true then sh_u2 X 25 0 ((X 25 0) + 1) else X) t s else X
theorem od_c_congr {X Y : sh_II} {t i : Nat} (h1 : X 12 i = Y 12 i) (h2 : X 13 i = Y 13 i) : od_c X t i = od_c Y t i := by simp only [od_c, h1, h2]
theorem od_f_congr {t s : Nat} : ∀ (z : List Nat) (X Y : sh_II), (∀ r c, r ≠ 23 → X r c = Y r c) → ∀ r c, r ≠ 23 → z.foldl (od_1 t s) X r c = z.foldl (od_1 t s) Y r c := by
  intro z
  induction z with
  | nil => intro X Y h; exact h
  | cons a z ih =>
    intro X Y h
    refine ih _ _ (fun r c hr => ?_)
    unfold od_1
    rw [od_c_congr (h 12 a (by decide)) (h 13 a (by decide))]
    split
    · by_cases e : r = 22 ∧ c = 8 * a + s
      · obtain ⟨rfl, rfl⟩ := e; rw [sh_u2_eq, sh_u2_eq]
      · rw [show sh_u2 X 22 (8 * a + s) 1 r c = X r c from if_neg e, show sh_u2 Y 22 (8 * a + s) 1 r c = Y r c from if_neg e]; exact h r c hr
    · exact h r c hr
theorem ml_ordered (ht : t < 6) (hs : s < 8) (h22 : ∀ c, c < 64 → I 22 c = 0 ∨ I 22 c = 1) : ∃ X' : sh_II, (∀ r c, r ≠ 23 → X' r c = (if sp_mkt I t s = true then sh_u2 I 25 0 ((I 25 0) + 1) else sp_mko I t s) r c) ∧ sh_mM mq A md_Mod_ordered [.ref mq, .int (nI t), .int (nI s)] I D (some (.int (sp_b (!sp_mkt I t s)))) X' D := by
  by_cases h0 : I 24 0 = 0
  · have hw : sp_mkw I t s = false := by simp [sp_mkw, h0]
    have ht' : sp_mkt I t s = false := by simp [sp_mkt, hw]
    refine ⟨I, fun r c _ => ?_, ?_⟩
    · rw [ht', show sp_mko I t s = I from if_neg (by rw [hw]; decide)]; rfl
    · rw [ht']; exact mb_Mod_ordered_p_0_1 ht hs h0
  by_cases hk : I 12 s = 0 ∨ I 12 s = 1
  · by_cases g : I 13 s = nI t
    · have hw : sp_mkw I t s = false := by simp [sp_mkw, g]
      have ht' : sp_mkt I t s = false := by simp [sp_mkt, hw]
      refine ⟨I, fun r c _ => ?_, ?_⟩
      · rw [ht', show sp_mko I t s = I from if_neg (by rw [hw]; decide)]; rfl
      · rw [ht']
        by_cases k0 : I 12 s = 0
        · exact mb_Mod_ordered_p_0_2 ht hs h0 k0 g
        · exact mb_Mod_ordered_p_0_4 ht hs h0 k0 (hk.resolve_left k0) g
    · have hw : sp_mkw I t s = true := decide_eq_true ⟨h0, hk, g⟩
      obtain ⟨X', hX, hgo⟩ := ml_ord32 (mq := mq) (A := A) (D := D) ht hs 8 0 I 0 rfl h22
      have start : ∀ (v9 : Option Value) (I9 : sh_II) (D9 : sh_DD), sh_mW mq A md_Mod_ordered (32, [(0, .ref mq), (1, .int (nI t)), (2, .int (nI s)), (3, .int (if sp_mkb I t s = true then 1 else 0)), (4, .int (nI 8))], []) X' D 0 0 v9 I9 D9 → sh_mM mq A md_Mod_ordered [.ref mq, .int (nI t), .int (nI s)] I D v9 I9 D9 := by
        intro v9 I9 D9 k
        by_cases k0 : I 12 s = 0
        · exact mb_Mod_ordered_p_0_3 ht hs h0 k0 g (hgo v9 I9 D9 k)
        · exact mb_Mod_ordered_p_0_5 ht hs h0 k0 (hk.resolve_left k0) g (hgo v9 I9 D9 k)
      have h24 : X' 24 0 = I 24 0 := hX 24 0 (by decide)
      cases hb : sp_mkb I t s with
      | false =>
        have ht' : sp_mkt I t s = false := by simp [sp_mkt, hb]
        refine ⟨(List.range' 0 8).foldl (od_1 t s) X', fun r c hr => ?_, ?_⟩
        · rw [if_neg (by rw [ht']; decide), show sp_mko I t s = sp_mput I t s by unfold sp_mko; rw [if_pos hw, if_neg (by rw [hb]; decide)]]
          exact od_f_congr (List.range' 0 8) X' I hX r c hr
        · rw [ht']
          refine start _ _ _ ?_
          rw [hb]
          exact mb_Mod_ordered_e_32_1 ht hs (sp_x8 rfl) rfl (ml_ord118 ht hs 8 0 X' rfl)
      | true =>
        by_cases h2 : I 24 0 = 2
        · have ht' : sp_mkt I t s = true := by simp [sp_mkt, hw, hb, h2]
          refine ⟨sh_u2 X' 25 0 ((X' 25 0) + 1), fun r c hr => ?_, ?_⟩
          · rw [ht', if_pos rfl, hX 25 0 (by decide)]
            by_cases e : r = 25 ∧ c = 0
            · obtain ⟨rfl, rfl⟩ := e; rw [sh_u2_eq, sh_u2_eq]
            · rw [show sh_u2 X' 25 0 (I 25 0 + 1) r c = X' r c from if_neg e, show sh_u2 I 25 0 (I 25 0 + 1) r c = I r c from if_neg e]; exact hX r c hr
          · rw [ht']
            refine start _ _ _ ?_
            rw [hb]
            exact mb_Mod_ordered_e_32_2 ht hs (sp_x8 rfl) (by decide) (h24.trans h2)
        · have ht' : sp_mkt I t s = false := by simp [sp_mkt, h2]
          refine ⟨(List.range' 0 8).foldl (od_1 t s) (sh_u2 X' 25 0 ((X' 25 0) + 1)), fun r c hr => ?_, ?_⟩
          · have hh := od_f_congr (t := t) (s := s) (List.range' 0 8) (sh_u2 X' 25 0 ((X' 25 0) + 1)) (sh_u2 I 25 0 ((I 25 0) + 1)) (fun r c hr => by
              rw [hX 25 0 (by decide)]
              by_cases e : r = 25 ∧ c = 0
              · obtain ⟨rfl, rfl⟩ := e; rw [sh_u2_eq, sh_u2_eq]
              · rw [show sh_u2 X' 25 0 (I 25 0 + 1) r c = X' r c from if_neg e, show sh_u2 I 25 0 (I 25 0 + 1) r c = I r c from if_neg e]; exact hX r c hr) r c hr
            rw [hh, if_neg (by rw [ht']; decide), show sp_mko I t s = sp_mput (sh_u2 I 25 0 ((I 25 0) + 1)) t s by unfold sp_mko; rw [if_pos hw, if_pos hb]]
            rfl
          · rw [ht']
            refine start _ _ _ ?_
            rw [hb]
            exact mb_Mod_ordered_e_32_3 ht hs (sp_x8 rfl) (by decide) (fun q => h2 (h24.symm.trans q)) (ml_ord118 ht hs 8 0 _ rfl)
  · have hw : sp_mkw I t s = false := by simp [sp_mkw, hk]
    have ht' : sp_mkt I t s = false := by simp [sp_mkt, hw]
    refine ⟨I, fun r c _ => ?_, ?_⟩
    · rw [ht', show sp_mko I t s = I from if_neg (by rw [hw]; decide)]; rfl
    · rw [ht']; exact mb_Mod_ordered_p_0_6 ht hs h0 (fun q => hk (Or.inl q)) (fun q => hk (Or.inr q))
end MOR
