/-! into a row, out of it, and back to the lock -/
def sp_enq (K : sh_II) (s t : Nat) (m : Int32) (l : List Nat) : sh_II := sh_u2 (sh_u2 (sh_u2 (sh_u2 (sh_u2 K 18 (6 * s + l.length) (nI t)) 19 s ((K 19 s) + 1)) 5 t (nI s)) 6 t m) 4 t 0
def sp_deq (K : sh_II) (s t : Nat) (l : List Nat) : sh_II := sh_u2 (sh_u2 (sp_row K s (sp_rm l t)) 5 t (-1)) 26 t 0
theorem sp_enq_keep {K : sh_II} {s t : Nat} {m : Int32} {l : List Nat} {r : Nat} (h : r ≠ 18 ∧ r ≠ 19 ∧ r ≠ 5 ∧ r ≠ 6 ∧ r ≠ 4) (c : Nat) : sp_enq K s t m l r c = K r c := by
  unfold sp_enq
  rw [sh_u2_row h.2.2.2.2, sh_u2_row h.2.2.2.1, sh_u2_row h.2.2.1, sh_u2_row h.2.1, sh_u2_row h.1]
theorem sp_deq_keep {K : sh_II} {s t : Nat} {l : List Nat} {r : Nat} (h : r ≠ 18 ∧ r ≠ 19 ∧ r ≠ 5 ∧ r ≠ 26) (c : Nat) : sp_deq K s t l r c = K r c := by
  unfold sp_deq
  rw [sh_u2_row h.2.2.2, sh_u2_row h.2.2.1, sp_row_keep ⟨h.1, h.2.1⟩]
theorem sp_r18_at {X : sh_II} {s : Nat} {l : List Nat} {i u : Nat} (h : l[i]? = some u) : sp_r18 X s l 18 (6 * s + i) = nI u := by
  obtain ⟨h1, h2⟩ := List.getElem?_eq_some_iff.mp h
  unfold sp_r18
  rw [if_pos ⟨rfl, by omega, by omega⟩, Nat.add_sub_cancel_left, List.getD_eq_getElem?_getD, h]
  rfl
theorem cw_row_row {X : sh_II} {s : Nat} {l : List Nat} (h : l.length ≤ 6) (hl : ∀ u ∈ l, u < 6) : cw_row (sp_row X s l) s l := by
  refine ⟨sh_u2_eq _ _ _ _, h, fun i u hu => ⟨?_, hl u (List.mem_of_getElem? hu)⟩⟩
  rw [sp_row, sh_u2_row (by decide)]
  exact sp_r18_at hu
/-- another row is as it was -/
theorem cw_row_other {X : sh_II} {s q : Nat} {l m : List Nat} (hs : s ≠ q) (hm : m.length ≤ 6) (hr : cw_row X q l) : cw_row (sp_row X s m) q l := by
  have hl := hr.2.1
  refine ⟨by rw [sp_row, sh_u2_col (Ne.symm hs), sp_r18_keep (by decide)]; exact hr.1, hr.2.1, fun i u hu => ?_⟩
  have hi := (List.getElem?_eq_some_iff.mp hu).1
  rw [sp_row, sh_u2_row (by decide), sp_r18, if_neg (fun e => by omega)]
  exact hr.2.2 i u hu
theorem cw_row_deq {K : sh_II} {s t : Nat} {l : List Nat} (hr : cw_row K s l) : cw_row (sp_deq K s t l) s (sp_rm l t) :=
  cw_row_up (by decide) (cw_row_up (by decide) (cw_row_row (Nat.le_trans (sp_rm_len l t) hr.2.1) (fun u hu => cw_row_lt hr (List.mem_filter.mp hu).1)))
theorem cw_row_deq' {K : sh_II} {s t q : Nat} {l m : List Nat} (hs : s ≠ q) (hr : cw_row K s l) (hq : cw_row K q m) : cw_row (sp_deq K s t l) q m :=
  cw_row_up (by decide) (cw_row_up (by decide) (cw_row_other hs (Nat.le_trans (sp_rm_len l t) hr.2.1) hq))
theorem cw_row_enq {K : sh_II} {s t : Nat} {m : Int32} {l : List Nat} (ht : t < 6) (hl : l.length < 6) (hr : cw_row K s l) : cw_row (sp_enq K s t m l) s (l ++ [t]) := by
  refine ⟨?_, by rw [List.length_append]; exact hl, fun i u hu => ?_⟩
  · unfold sp_enq
    rw [sh_u2_row (by decide), sh_u2_row (by decide), sh_u2_row (by decide), sh_u2_eq, hr.1, nI_1, List.length_append]
    rfl
  · unfold sp_enq
    rw [sh_u2_row (by decide), sh_u2_row (by decide), sh_u2_row (by decide), sh_u2_row (by decide)]
    by_cases h : i = l.length
    · subst h
      rw [List.getElem?_append_right (Nat.le_refl _), Nat.sub_self] at hu
      cases hu
      exact ⟨sh_u2_eq _ _ _ _, ht⟩
    · have hi := (List.getElem?_eq_some_iff.mp hu).1
      rw [List.length_append] at hi
      have hi2 : i < l.length := by simp at hi; omega
      rw [List.getElem?_append_left hi2] at hu
      rw [sh_u2_col (by omega)]
      exact hr.2.2 i u hu
theorem cw_row_enq' {K : sh_II} {s t q : Nat} {m : Int32} {l l2 : List Nat} (hs : s ≠ q) (hl : l.length < 6) (hr : cw_row K q l2) : cw_row (sp_enq K s t m l) q l2 := by
  unfold sp_enq
  refine cw_row_up (by decide) (cw_row_up (by decide) (cw_row_up (by decide) ⟨?_, hr.2.1, fun i u hu => ?_⟩))
  · rw [sh_u2_col (Ne.symm hs), sh_u2_row (by decide)]; exact hr.1
  · have hi := (List.getElem?_eq_some_iff.mp hu).1
    have := hr.2.1
    rw [sh_u2_row (by decide), sh_u2_col (by omega)]
    exact hr.2.2 i u hu
/-- to the lock s, why = x -/
def sp_qK (K : sh_II) (s t : Nat) (x : Int32) (l : List Nat) : sh_II := sp_enq (sh_u2 (sh_u2 K 10 t x) 27 t 1) s t 0 l
def sp_qfl (K : sh_II) (L : sh_DD) (s t : Nat) (x : Int32) (l : List Nat) : sh_II × sh_DD := sp_serve (L 11 0) s (l ++ [t]).length (sp_qK K s t x l) (sh_u2 L 8 t (L 11 0)) (l ++ [t])
def sp_qok (K : sh_II) (L : sh_DD) (s t : Nat) (x : Int32) (l : List Nat) : Prop := sp_svok (L 11 0) s (l ++ [t]).length (sp_qK K s t x l) (sh_u2 L 8 t (L 11 0)) (l ++ [t])
theorem sp_qfl_keepK {K : sh_II} {L : sh_DD} {s t : Nat} {x : Int32} {l : List Nat} {r : Nat} (h : (r ≠ 18 ∧ r ≠ 19 ∧ r ≠ 5 ∧ r ≠ 26 ∧ r ≠ 13 ∧ r ≠ 14 ∧ r ≠ 15 ∧ r ≠ 17 ∧ r ≠ 4 ∧ r ≠ 27 ∧ r ≠ 21) ∧ r ≠ 6 ∧ r ≠ 10) (c : Nat) : (sp_qfl K L s t x l).1 r c = K r c := by
  have h1 := h.1
  unfold sp_qfl
  rw [sp_serve_keepK h.1, sp_qK, sp_enq_keep ⟨h1.1, h1.2.1, h1.2.2.1, h.2.1, h1.2.2.2.2.2.2.2.2.1⟩, sh_u2_row h1.2.2.2.2.2.2.2.2.2.1, sh_u2_row h.2.2]
theorem sp_qfl_keepL {K : sh_II} {L : sh_DD} {s t : Nat} {x : Int32} {l : List Nat} {r : Nat} (h : r ≠ 20 ∧ r ≠ 8) (c : Nat) : (sp_qfl K L s t x l).2 r c = L r c := by
  unfold sp_qfl
  rw [sp_serve_keepL h.1, sh_u2_row h.2]
theorem cl_qfl {A : Nat → Nat} {K : sh_II} {L : sh_DD} {s t : Nat} {x : Int32} {l : List Nat} (ht : t < 6) (hs : s < 8) (hr : cw_row K s l) (hlen : l.length < 6) (hv : sp_qok K L s t x l) (hk : cw_cl (K 12 s) = 4) : sh_cM A md_Hall_queueForLock [.ref (A 0), .ref (A (10 + t)), .ref (A (20 + s)), .int x] K L (.inl none) (sp_qfl K L s t x l).1 (sp_qfl K L s t x l).2 :=
  ct_Hall_queueForLock_1 ht hs hr hlen hk (cw_row_enq (m := 0) ht hlen (cw_row_up (by decide) (cw_row_up (by decide) hr))) hv
theorem cl_enq_Lock {A : Nat → Nat} {K : sh_II} {L : sh_DD} {s t : Nat} {m : Int32} {a : UInt64} {l : List Nat} (ht : t < 6) (hs : s < 8) (hr : cw_row K s l) (hlen : l.length < 6) (hk : cw_cl (K 12 s) = 4) : sh_cM A md_Sync_enqueue [.ref (A (20 + s)), .ref (A (10 + t)), .int m, .double a] K L (.inl none) (sp_enq K s t m l) (sh_u2 L 8 t a) := ct_Sync_enqueue_Lock_1 ht hs hlen hr.1 hk
theorem cl_deq_Lock {A : Nat → Nat} {K : sh_II} {L : sh_DD} {s t : Nat} {l : List Nat} (ht : t < 6) (hs : s < 8) (hr : cw_row K s l) (hk : cw_cl (K 12 s) = 4) : sh_cM A md_Sync_dequeue [.ref (A (20 + s)), .ref (A (10 + t))] K L (.inl none) (sp_deq K s t l) L := ct_Sync_dequeue_Lock_1 ht hs hr hk
theorem cl_enq_Semaphore {A : Nat → Nat} {K : sh_II} {L : sh_DD} {s t : Nat} {m : Int32} {a : UInt64} {l : List Nat} (ht : t < 6) (hs : s < 8) (hr : cw_row K s l) (hlen : l.length < 6) (hk : cw_cl (K 12 s) = 5) : sh_cM A md_Sync_enqueue [.ref (A (20 + s)), .ref (A (10 + t)), .int m, .double a] K L (.inl none) (sp_enq K s t m l) (sh_u2 L 8 t a) := ct_Sync_enqueue_Semaphore_1 ht hs hlen hr.1 hk
theorem cl_deq_Semaphore {A : Nat → Nat} {K : sh_II} {L : sh_DD} {s t : Nat} {l : List Nat} (ht : t < 6) (hs : s < 8) (hr : cw_row K s l) (hk : cw_cl (K 12 s) = 5) : sh_cM A md_Sync_dequeue [.ref (A (20 + s)), .ref (A (10 + t))] K L (.inl none) (sp_deq K s t l) L := ct_Sync_dequeue_Semaphore_1 ht hs hr hk
theorem cl_enq_Latch {A : Nat → Nat} {K : sh_II} {L : sh_DD} {s t : Nat} {m : Int32} {a : UInt64} {l : List Nat} (ht : t < 6) (hs : s < 8) (hr : cw_row K s l) (hlen : l.length < 6) (hk : cw_cl (K 12 s) = 6) : sh_cM A md_Sync_enqueue [.ref (A (20 + s)), .ref (A (10 + t)), .int m, .double a] K L (.inl none) (sp_enq K s t m l) (sh_u2 L 8 t a) := ct_Sync_enqueue_Latch_1 ht hs hlen hr.1 hk
theorem cl_deq_Latch {A : Nat → Nat} {K : sh_II} {L : sh_DD} {s t : Nat} {l : List Nat} (ht : t < 6) (hs : s < 8) (hr : cw_row K s l) (hk : cw_cl (K 12 s) = 6) : sh_cM A md_Sync_dequeue [.ref (A (20 + s)), .ref (A (10 + t))] K L (.inl none) (sp_deq K s t l) L := ct_Sync_dequeue_Latch_1 ht hs hr hk
theorem cl_enq_Shared {A : Nat → Nat} {K : sh_II} {L : sh_DD} {s t : Nat} {m : Int32} {a : UInt64} {l : List Nat} (ht : t < 6) (hs : s < 8) (hr : cw_row K s l) (hlen : l.length < 6) (hk : cw_cl (K 12 s) = 7) : sh_cM A md_Sync_enqueue [.ref (A (20 + s)), .ref (A (10 + t)), .int m, .double a] K L (.inl none) (sp_enq K s t m l) (sh_u2 L 8 t a) := ct_Sync_enqueue_Shared_1 ht hs hlen hr.1 hk
theorem cl_deq_Shared {A : Nat → Nat} {K : sh_II} {L : sh_DD} {s t : Nat} {l : List Nat} (ht : t < 6) (hs : s < 8) (hr : cw_row K s l) (hk : cw_cl (K 12 s) = 7) : sh_cM A md_Sync_dequeue [.ref (A (20 + s)), .ref (A (10 + t))] K L (.inl none) (sp_deq K s t l) L := ct_Sync_dequeue_Shared_1 ht hs hr hk
theorem cl_enq_Condition {A : Nat → Nat} {K : sh_II} {L : sh_DD} {s t : Nat} {m : Int32} {a : UInt64} {l : List Nat} (ht : t < 6) (hs : s < 8) (hr : cw_row K s l) (hlen : l.length < 6) (hk : cw_cl (K 12 s) = 8) : sh_cM A md_Sync_enqueue [.ref (A (20 + s)), .ref (A (10 + t)), .int m, .double a] K L (.inl none) (sp_enq K s t m l) (sh_u2 L 8 t a) := ct_Sync_enqueue_Condition_1 ht hs hlen hr.1 hk
theorem cl_deq_Condition {A : Nat → Nat} {K : sh_II} {L : sh_DD} {s t : Nat} {l : List Nat} (ht : t < 6) (hs : s < 8) (hr : cw_row K s l) (hk : cw_cl (K 12 s) = 8) : sh_cM A md_Sync_dequeue [.ref (A (20 + s)), .ref (A (10 + t))] K L (.inl none) (sp_deq K s t l) L := ct_Sync_dequeue_Condition_1 ht hs hr hk
