/-! serve -/
def sp_svK (K : sh_II) (s t : Nat) (l : List Nat) : sh_II := sh_u2 (sh_u2 (sh_u2 (sp_tk (sh_u2 (sh_u2 (sp_row K s (sp_rm l t)) 5 t (-1)) 26 t 0) t s (K 6 t) (K 9 t)) 4 t (K 10 t)) 27 t 0) 21 s ((K 21 s) + 1)
def sp_svL (L : sh_DD) (s t : Nat) (p : UInt64) : sh_DD := sh_u2 L 20 s (FP.dadd (L 20 s) (FP.dsub p (L 8 t)))
def sp_serve (p : UInt64) (s : Nat) : Nat → sh_II → sh_DD → List Nat → sh_II × sh_DD
  | 0, K, L, _ => (K, L)
  | n + 1, K, L, l => match sp_nx K L s l with
    | none => (K, L)
    | some t => if sp_can K t s (K 6 t) = true then sp_serve p s n (sp_svK K s t l) (sp_svL L s t p) (sp_rm l t) else (K, L)
/-- what is asked on the way -/
def sp_svok (p : UInt64) (s : Nat) : Nat → sh_II → sh_DD → List Nat → Prop
  | 0, _, _, _ => True
  | n + 1, K, L, l => cw_row K s l ∧ cw_okr K ∧ ∀ t, sp_nx K L s l = some t → (K 6 t = 0 ∨ K 6 t = 1) ∧ (sp_can K t s (K 6 t) = true → vf_n64 (FP.dsub p (L 8 t)) ∧ vf_n64 (FP.dadd (L 20 s) (FP.dsub p (L 8 t))) ∧ sp_svok p s n (sp_svK K s t l) (sp_svL L s t p) (sp_rm l t))
theorem sp_svK_keep {K : sh_II} {s t : Nat} {l : List Nat} {r : Nat} (h : r ≠ 18 ∧ r ≠ 19 ∧ r ≠ 5 ∧ r ≠ 26 ∧ r ≠ 13 ∧ r ≠ 14 ∧ r ≠ 15 ∧ r ≠ 17 ∧ r ≠ 4 ∧ r ≠ 27 ∧ r ≠ 21) (c : Nat) : sp_svK K s t l r c = K r c := by
  obtain ⟨h18, h19, h5, h26, h13, h14, h15, h17, h4, h27, h21⟩ := h
  unfold sp_svK
  rw [sh_u2_row h21, sh_u2_row h27, sh_u2_row h4, sp_tk_keep ⟨h13, h14, h15, h17⟩, sh_u2_row h26, sh_u2_row h5, sp_row_keep ⟨h18, h19⟩]
theorem sp_serve_keepK {p : UInt64} {s r : Nat} (h : r ≠ 18 ∧ r ≠ 19 ∧ r ≠ 5 ∧ r ≠ 26 ∧ r ≠ 13 ∧ r ≠ 14 ∧ r ≠ 15 ∧ r ≠ 17 ∧ r ≠ 4 ∧ r ≠ 27 ∧ r ≠ 21) (c : Nat) {n : Nat} {K : sh_II} {L : sh_DD} {l : List Nat} : (sp_serve p s n K L l).1 r c = K r c := by
  induction n generalizing K L l with
  | zero => rfl
  | succ n ih =>
    unfold sp_serve
    split
    · rfl
    · split
      · rw [ih, sp_svK_keep h]
      · rfl
theorem sp_serve_keepL {p : UInt64} {s r : Nat} (h : r ≠ 20) (c : Nat) {n : Nat} {K : sh_II} {L : sh_DD} {l : List Nat} : (sp_serve p s n K L l).2 r c = L r c := by
  induction n generalizing K L l with
  | zero => rfl
  | succ n ih =>
    unfold sp_serve
    split
    · rfl
    · split
      · rw [ih]; exact sh_u2_row h c
      · rfl
theorem cl_serve0_Lock {A : Nat → Nat} {s : Nat} {p : UInt64} {z : Nat} (hs : s < 8) (hz : z < 2 ^ 31) : ∀ n i (K : sh_II) (L : sh_DD) (l : List Nat), i + n = z → cw_cl (K 12 s) = 4 → sp_svok p s n K L l → sh_cW A md_Gate_serve (11, [(0, .ref (A (20 + s))), (1, .double p), (3, .int (nI z)), (4, .int (nI i))], []) K L 0 0 (.inl none) (sp_serve p s n K L l).1 (sp_serve p s n K L l).2 := by
  intro n
  induction n with
  | zero => intro i K L l hi hk hv; exact cb_Gate_serve_Locke_11_1 hs (nI_le (by omega) (by omega)) hk
  | succ n ih =>
    intro i K L l hi hk hv
    obtain ⟨hr, ho, hv⟩ := hv
    have hx : ¬ nI z ≤ nI i := nI_ge (by omega) hz
    cases hn : sp_nx K L s l with
    | none =>
      rw [show sp_serve p s (n + 1) K L l = (K, L) by unfold sp_serve; rw [hn]]
      exact cb_Gate_serve_Lock_11_1 hs hr ho hx hk hn
    | some t =>
      obtain ⟨hm, hc⟩ := hv t hn
      have ht := sp_nx_lt hr hn
      by_cases e : sp_can K t s (K 6 t) = true
      · obtain ⟨v1, v2, hv'⟩ := hc e
        rw [show sp_serve p s (n + 1) K L l = sp_serve p s n (sp_svK K s t l) (sp_svL L s t p) (sp_rm l t) by rw [sp_serve, hn]; exact if_pos e]
        have hk' : cw_cl (sp_svK K s t l 12 s) = 4 := by rw [sp_svK_keep (by decide)]; exact hk
        exact cb_Gate_serve_Lock_11_3 hs hr ho hx hk ht hn hm (by rw [e]; decide) v1 v2 (ih (i + 1) (sp_svK K s t l) (sp_svL L s t p) (sp_rm l t) (by omega) hk' hv')
      · rw [show sp_serve p s (n + 1) K L l = (K, L) by rw [sp_serve, hn]; exact if_neg e]
        exact cb_Gate_serve_Lock_11_2 hs hr ho hx hk ht hn hm ((sp_bz _).mpr (by simpa using e))
theorem cl_serve_Lock {A : Nat → Nat} {s : Nat} {p : UInt64} {K : sh_II} {L : sh_DD} {l : List Nat} (hs : s < 8) (hr : cw_row K s l) (hv : sp_svok p s l.length K L l) (hk : cw_cl (K 12 s) = 4) : sh_cM A md_Gate_serve [.ref (A (20 + s)), .double p] K L (.inl none) (sp_serve p s l.length K L l).1 (sp_serve p s l.length K L l).2 := by
  have h := cl_serve0_Lock (A := A) (s := s) (p := p) (z := l.length) hs (by have := hr.2.1; omega) l.length 0 K L l (by omega) hk hv
  rw [← hr.1] at h
  exact cb_Gate_serve_Lockp_0_1 hs hk h
theorem cl_serve0_Semaphore {A : Nat → Nat} {s : Nat} {p : UInt64} {z : Nat} (hs : s < 8) (hz : z < 2 ^ 31) : ∀ n i (K : sh_II) (L : sh_DD) (l : List Nat), i + n = z → cw_cl (K 12 s) = 5 → sp_svok p s n K L l → sh_cW A md_Gate_serve (11, [(0, .ref (A (20 + s))), (1, .double p), (3, .int (nI z)), (4, .int (nI i))], []) K L 0 0 (.inl none) (sp_serve p s n K L l).1 (sp_serve p s n K L l).2 := by
  intro n
  induction n with
  | zero => intro i K L l hi hk hv; exact cb_Gate_serve_Semaphoree_11_1 hs (nI_le (by omega) (by omega)) hk
  | succ n ih =>
    intro i K L l hi hk hv
    obtain ⟨hr, ho, hv⟩ := hv
    have hx : ¬ nI z ≤ nI i := nI_ge (by omega) hz
    cases hn : sp_nx K L s l with
    | none =>
      rw [show sp_serve p s (n + 1) K L l = (K, L) by unfold sp_serve; rw [hn]]
      exact cb_Gate_serve_Semaphore_11_1 hs hr ho hx hk hn
    | some t =>
      obtain ⟨hm, hc⟩ := hv t hn
      have ht := sp_nx_lt hr hn
      by_cases e : sp_can K t s (K 6 t) = true
      · obtain ⟨v1, v2, hv'⟩ := hc e
        rw [show sp_serve p s (n + 1) K L l = sp_serve p s n (sp_svK K s t l) (sp_svL L s t p) (sp_rm l t) by rw [sp_serve, hn]; exact if_pos e]
        have hk' : cw_cl (sp_svK K s t l 12 s) = 5 := by rw [sp_svK_keep (by decide)]; exact hk
        exact cb_Gate_serve_Semaphore_11_3 hs hr ho hx hk ht hn hm (by rw [e]; decide) v1 v2 (ih (i + 1) (sp_svK K s t l) (sp_svL L s t p) (sp_rm l t) (by omega) hk' hv')
      · rw [show sp_serve p s (n + 1) K L l = (K, L) by rw [sp_serve, hn]; exact if_neg e]
        exact cb_Gate_serve_Semaphore_11_2 hs hr ho hx hk ht hn hm ((sp_bz _).mpr (by simpa using e))
theorem cl_serve_Semaphore {A : Nat → Nat} {s : Nat} {p : UInt64} {K : sh_II} {L : sh_DD} {l : List Nat} (hs : s < 8) (hr : cw_row K s l) (hv : sp_svok p s l.length K L l) (hk : cw_cl (K 12 s) = 5) : sh_cM A md_Gate_serve [.ref (A (20 + s)), .double p] K L (.inl none) (sp_serve p s l.length K L l).1 (sp_serve p s l.length K L l).2 := by
  have h := cl_serve0_Semaphore (A := A) (s := s) (p := p) (z := l.length) hs (by have := hr.2.1; omega) l.length 0 K L l (by omega) hk hv
  rw [← hr.1] at h
  exact cb_Gate_serve_Semaphorep_0_1 hs hk h
theorem cl_serve0_Latch {A : Nat → Nat} {s : Nat} {p : UInt64} {z : Nat} (hs : s < 8) (hz : z < 2 ^ 31) : ∀ n i (K : sh_II) (L : sh_DD) (l : List Nat), i + n = z → cw_cl (K 12 s) = 6 → sp_svok p s n K L l → sh_cW A md_Gate_serve (11, [(0, .ref (A (20 + s))), (1, .double p), (3, .int (nI z)), (4, .int (nI i))], []) K L 0 0 (.inl none) (sp_serve p s n K L l).1 (sp_serve p s n K L l).2 := by
  intro n
  induction n with
  | zero => intro i K L l hi hk hv; exact cb_Gate_serve_Latche_11_1 hs (nI_le (by omega) (by omega)) hk
  | succ n ih =>
    intro i K L l hi hk hv
    obtain ⟨hr, ho, hv⟩ := hv
    have hx : ¬ nI z ≤ nI i := nI_ge (by omega) hz
    cases hn : sp_nx K L s l with
    | none =>
      rw [show sp_serve p s (n + 1) K L l = (K, L) by unfold sp_serve; rw [hn]]
      exact cb_Gate_serve_Latch_11_1 hs hr ho hx hk hn
    | some t =>
      obtain ⟨hm, hc⟩ := hv t hn
      have ht := sp_nx_lt hr hn
      by_cases e : sp_can K t s (K 6 t) = true
      · obtain ⟨v1, v2, hv'⟩ := hc e
        rw [show sp_serve p s (n + 1) K L l = sp_serve p s n (sp_svK K s t l) (sp_svL L s t p) (sp_rm l t) by rw [sp_serve, hn]; exact if_pos e]
        have hk' : cw_cl (sp_svK K s t l 12 s) = 6 := by rw [sp_svK_keep (by decide)]; exact hk
        exact cb_Gate_serve_Latch_11_3 hs hr ho hx hk ht hn hm (by rw [e]; decide) v1 v2 (ih (i + 1) (sp_svK K s t l) (sp_svL L s t p) (sp_rm l t) (by omega) hk' hv')
      · rw [show sp_serve p s (n + 1) K L l = (K, L) by rw [sp_serve, hn]; exact if_neg e]
        exact cb_Gate_serve_Latch_11_2 hs hr ho hx hk ht hn hm ((sp_bz _).mpr (by simpa using e))
theorem cl_serve_Latch {A : Nat → Nat} {s : Nat} {p : UInt64} {K : sh_II} {L : sh_DD} {l : List Nat} (hs : s < 8) (hr : cw_row K s l) (hv : sp_svok p s l.length K L l) (hk : cw_cl (K 12 s) = 6) : sh_cM A md_Gate_serve [.ref (A (20 + s)), .double p] K L (.inl none) (sp_serve p s l.length K L l).1 (sp_serve p s l.length K L l).2 := by
  have h := cl_serve0_Latch (A := A) (s := s) (p := p) (z := l.length) hs (by have := hr.2.1; omega) l.length 0 K L l (by omega) hk hv
  rw [← hr.1] at h
  exact cb_Gate_serve_Latchp_0_1 hs hk h
theorem cl_serve0_Shared {A : Nat → Nat} {s : Nat} {p : UInt64} {z : Nat} (hs : s < 8) (hz : z < 2 ^ 31) : ∀ n i (K : sh_II) (L : sh_DD) (l : List Nat), i + n = z → cw_cl (K 12 s) = 7 → sp_svok p s n K L l → sh_cW A md_Gate_serve (11, [(0, .ref (A (20 + s))), (1, .double p), (3, .int (nI z)), (4, .int (nI i))], []) K L 0 0 (.inl none) (sp_serve p s n K L l).1 (sp_serve p s n K L l).2 := by
  intro n
  induction n with
  | zero => intro i K L l hi hk hv; exact cb_Gate_serve_Sharede_11_1 hs (nI_le (by omega) (by omega)) hk
  | succ n ih =>
    intro i K L l hi hk hv
    obtain ⟨hr, ho, hv⟩ := hv
    have hx : ¬ nI z ≤ nI i := nI_ge (by omega) hz
    cases hn : sp_nx K L s l with
    | none =>
      rw [show sp_serve p s (n + 1) K L l = (K, L) by unfold sp_serve; rw [hn]]
      exact cb_Gate_serve_Shared_11_1 hs hr ho hx hk hn
    | some t =>
      obtain ⟨hm, hc⟩ := hv t hn
      have ht := sp_nx_lt hr hn
      by_cases e : sp_can K t s (K 6 t) = true
      · obtain ⟨v1, v2, hv'⟩ := hc e
        rw [show sp_serve p s (n + 1) K L l = sp_serve p s n (sp_svK K s t l) (sp_svL L s t p) (sp_rm l t) by rw [sp_serve, hn]; exact if_pos e]
        have hk' : cw_cl (sp_svK K s t l 12 s) = 7 := by rw [sp_svK_keep (by decide)]; exact hk
        exact cb_Gate_serve_Shared_11_3 hs hr ho hx hk ht hn hm (by rw [e]; decide) v1 v2 (ih (i + 1) (sp_svK K s t l) (sp_svL L s t p) (sp_rm l t) (by omega) hk' hv')
      · rw [show sp_serve p s (n + 1) K L l = (K, L) by rw [sp_serve, hn]; exact if_neg e]
        exact cb_Gate_serve_Shared_11_2 hs hr ho hx hk ht hn hm ((sp_bz _).mpr (by simpa using e))
theorem cl_serve_Shared {A : Nat → Nat} {s : Nat} {p : UInt64} {K : sh_II} {L : sh_DD} {l : List Nat} (hs : s < 8) (hr : cw_row K s l) (hv : sp_svok p s l.length K L l) (hk : cw_cl (K 12 s) = 7) : sh_cM A md_Gate_serve [.ref (A (20 + s)), .double p] K L (.inl none) (sp_serve p s l.length K L l).1 (sp_serve p s l.length K L l).2 := by
  have h := cl_serve0_Shared (A := A) (s := s) (p := p) (z := l.length) hs (by have := hr.2.1; omega) l.length 0 K L l (by omega) hk hv
  rw [← hr.1] at h
  exact cb_Gate_serve_Sharedp_0_1 hs hk h
