/-! the gates' questions as functions of the numbers -/
theorem cw_k4 {x : Int32} (h : cw_cl x = 4) : x = 0 ∨ x = 1 := by
  unfold cw_cl at h
  by_cases h1 : x = 0 ∨ x = 1
  · exact h1
  · rw [if_neg h1] at h
    repeat (first | (split at h; · simp at h) | simp at h)
theorem cw_k5 {x : Int32} (h : cw_cl x = 5) : x = 2 ∨ x = 3 := by
  unfold cw_cl at h
  by_cases h1 : x = 0 ∨ x = 1
  · rw [if_pos h1] at h; simp at h
  · rw [if_neg h1] at h
    by_cases h2 : x = 2 ∨ x = 3
    · exact h2
    · rw [if_neg h2] at h
      repeat (first | (split at h; · simp at h) | simp at h)
theorem cw_k6 {x : Int32} (h : cw_cl x = 6) : x = 4 := by
  unfold cw_cl at h
  by_cases h1 : x = 0 ∨ x = 1
  · rw [if_pos h1] at h; simp at h
  · rw [if_neg h1] at h
    by_cases h2 : x = 2 ∨ x = 3
    · rw [if_pos h2] at h; simp at h
    · rw [if_neg h2] at h
      by_cases h3 : x = 4
      · exact h3
      · rw [if_neg h3] at h
        repeat (first | (split at h; · simp at h) | simp at h)
theorem cw_k7 {x : Int32} (h : cw_cl x = 7) : x = 5 := by
  unfold cw_cl at h
  by_cases h1 : x = 0 ∨ x = 1
  · rw [if_pos h1] at h; simp at h
  · rw [if_neg h1] at h
    by_cases h2 : x = 2 ∨ x = 3
    · rw [if_pos h2] at h; simp at h
    · rw [if_neg h2] at h
      by_cases h3 : x = 4
      · rw [if_pos h3] at h; simp at h
      · rw [if_neg h3] at h
        by_cases h4 : x = 5
        · exact h4
        · rw [if_neg h4] at h
          repeat (first | (split at h; · simp at h) | simp at h)
theorem cw_k8 {x : Int32} (h : cw_cl x = 8) : x = 6 := by
  unfold cw_cl at h
  by_cases h1 : x = 0 ∨ x = 1
  · rw [if_pos h1] at h; simp at h
  · rw [if_neg h1] at h
    by_cases h2 : x = 2 ∨ x = 3
    · rw [if_pos h2] at h; simp at h
    · rw [if_neg h2] at h
      by_cases h3 : x = 4
      · rw [if_pos h3] at h; simp at h
      · rw [if_neg h3] at h
        by_cases h4 : x = 5
        · rw [if_pos h4] at h; simp at h
        · rw [if_neg h4] at h
          by_cases h5 : x = 6
          · exact h5
          · rw [if_neg h5] at h; simp at h
def sp_can (X : sh_II) (t s : Nat) (m : Int32) : Bool :=
  if X 12 s = 0 then decide (X 13 s < 0) else if X 12 s = 1 then decide (X 13 s < 0 ∨ X 13 s = nI t) else if X 12 s = 2 ∨ X 12 s = 3 then decide (¬ X 15 s ≤ 0) else if X 12 s = 4 then decide (X 15 s = 0)
  else decide (X 13 s < 0 ∨ X 13 s = nI t) && (decide (¬ m = 1) || !(sp_or X s t 0 6))
def sp_mq (X : sh_II) (t s : Nat) (m : Int32) (l : List Nat) : Bool :=
  if X 12 s = 4 ∨ (X 12 s = 1 ∧ X 13 s = nI t) then false else if ¬ X 12 s = 5 then decide (0 < l.length) else if 0 < X 17 (6 * s + t) ∨ X 13 s = nI t then false else l.any (fun u => decide (m = 1) || decide (X 6 u = 1))
def sp_nx (X : sh_II) (Y : sh_DD) (s : Nat) (l : List Nat) : Option Nat :=
  if X 12 s = 3 then sp_gp Y l else if X 12 s = 5 then (match sp_fw X l with | some u => some u | none => l.head?) else l.head?
def sp_tk (X : sh_II) (t s : Nat) (m e : Int32) : sh_II :=
  if cw_cl (X 12 s) = 4 then sh_u2 (sh_u2 X 13 s (nI t)) 14 s ((X 14 s) + e) else if cw_cl (X 12 s) = 5 then sh_u2 X 15 s ((X 15 s) - 1) else if cw_cl (X 12 s) = 7 then (if m = 0 then sh_u2 X 17 (6 * s + t) ((X 17 (6 * s + t)) + 1) else sh_u2 (sh_u2 X 13 s (nI t)) 14 s ((X 14 s) + 1)) else X
theorem sp_tk_keep {X : sh_II} {t s : Nat} {m e : Int32} {r : Nat} (h : r ≠ 13 ∧ r ≠ 14 ∧ r ≠ 15 ∧ r ≠ 17) (c : Nat) : sp_tk X t s m e r c = X r c := by
  unfold sp_tk
  split
  · rw [sh_u2_row h.2.1, sh_u2_row h.1]
  split
  · rw [sh_u2_row h.2.2.1]
  split
  · split
    · rw [sh_u2_row h.2.2.2]
    · rw [sh_u2_row h.2.1, sh_u2_row h.1]
  · rfl
def sp_it (X : sh_II) : Nat → Int32 → Int32
  | 0, y => y
  | n + 1, y => sp_it X n (y ||| sp_aft X y)
def sp_bef (X : sh_II) (j : Nat) (x : Int32) : Bool := decide (¬ (sp_it X 7 (X 28 j) &&& x) = 0)
section CLQ
variable {A : Nat → Nat} {K : sh_II} {L : sh_DD} {s t : Nat} {l : List Nat} {m : Int32}
theorem sp_b1 {b : Bool} (h : b = true) : sp_b b = 1 := by rw [h]; rfl
theorem sp_b0 {b : Bool} (h : b = false) : sp_b b = 0 := by rw [h]; rfl
theorem sp_bz (b : Bool) : sp_b b = 0 ↔ b = false := by cases b <;> decide
theorem sp_r1 {b : Bool} {K' : sh_II} {d : sh_Md} {As : List Value} (h : b = true) (k : sh_cM A d As K L (.inl (some (.int 1))) K' L) : sh_cM A d As K L (.inl (some (.int (sp_b b)))) K' L := by rw [sp_b1 h]; exact k
theorem sp_r0 {b : Bool} {K' : sh_II} {d : sh_Md} {As : List Value} (h : b = false) (k : sh_cM A d As K L (.inl (some (.int 0))) K' L) : sh_cM A d As K L (.inl (some (.int (sp_b b)))) K' L := by rw [sp_b0 h]; exact k
theorem nI_m1' {u : Nat} (h : u < 2 ^ 31) : ¬ nI u = (-1 : Int32) := fun e => nI_m1 h e.symm
theorem nI_neq {u t : Nat} (hu : u < 6) (ht : t < 6) (h : ¬ u = t) : ¬ nI u = nI t := fun e => h ((nI_eq (by omega) (by omega)).mp e)
theorem cl_can_Lock (ht : t < 6) (hs : s < 8) (ho : cw_okr K) (hm : m = 0 ∨ m = 1) (hk : cw_cl (K 12 s) = 4) : sh_cM A md_Lock_canTake [.ref (A (20 + s)), .ref (A (10 + t)), .int m] K L (.inl (some (.int (sp_b (sp_can K t s m))))) K L := by
  rcases ho s hs with h | ⟨u, hu, h⟩
  · refine sp_r1 ?_ (ct_Lock_canTake_1 ht hs hk h)
    rcases cw_k4 hk with e | e <;> simp [sp_can, e, h] <;> decide
  · have hp := nI_pos (n := u) (by omega)
    rcases cw_k4 hk with e | e
    · exact sp_r0 (by simp [sp_can, e, h, hp]) (ct_Lock_canTake_4 ht hs hk hu h (by rw [e]; decide))
    · by_cases f : u = t
      · exact sp_r1 (by simp [sp_can, e, h, hp, f]) (ct_Lock_canTake_2 ht hs hk hu h e f)
      · exact sp_r0 (by simp [sp_can, e, h, hp, nI_neq hu ht f]) (ct_Lock_canTake_3 ht hs hk hu h e f)
theorem cl_can_Semaphore (ht : t < 6) (hs : s < 8) (ho : cw_okr K) (hm : m = 0 ∨ m = 1) (hk : cw_cl (K 12 s) = 5) : sh_cM A md_Semaphore_canTake [.ref (A (20 + s)), .ref (A (10 + t)), .int m] K L (.inl (some (.int (sp_b (sp_can K t s m))))) K L := by
  by_cases h : K 15 s ≤ 0
  · refine sp_r0 ?_ (ct_Semaphore_canTake_1 ht hs hk h)
    rcases cw_k5 hk with e | e <;> simp [sp_can, e, h]
  · refine sp_r1 ?_ (ct_Semaphore_canTake_2 ht hs hk h)
    rcases cw_k5 hk with e | e <;> simp [sp_can, e] <;> exact Int32.not_le.mp h
theorem cl_can_Latch (ht : t < 6) (hs : s < 8) (ho : cw_okr K) (hm : m = 0 ∨ m = 1) (hk : cw_cl (K 12 s) = 6) : sh_cM A md_Latch_canTake [.ref (A (20 + s)), .ref (A (10 + t)), .int m] K L (.inl (some (.int (sp_b (sp_can K t s m))))) K L := by
  have e := cw_k6 hk
  by_cases h : K 15 s = 0
  · exact sp_r1 (by simp [sp_can, e, h]) (ct_Latch_canTake_1 ht hs hk h)
  · exact sp_r0 (by simp [sp_can, e, h]) (ct_Latch_canTake_2 ht hs hk h)
theorem cl_can_Shared (ht : t < 6) (hs : s < 8) (ho : cw_okr K) (hm : m = 0 ∨ m = 1) (hk : cw_cl (K 12 s) = 7) : sh_cM A md_Shared_canTake [.ref (A (20 + s)), .ref (A (10 + t)), .int m] K L (.inl (some (.int (sp_b (sp_can K t s m))))) K L := by
  have e := cw_k7 hk
  have c : sp_can K t s m = (decide (K 13 s < 0 ∨ K 13 s = nI t) && (decide (¬ m = 1) || !(sp_or K s t 0 6))) := by simp [sp_can, e]
  have m0 : ¬ m = 0 → m = 1 := fun h => hm.resolve_left h
  rcases ho s hs with h | ⟨u, hu, h⟩
  · have hd : decide (K 13 s < 0 ∨ K 13 s = nI t) = true := by rw [h]; exact decide_eq_true (Or.inl (by decide))
    by_cases f : m = 0
    · exact sp_r1 (by rw [c, hd, f]; rfl) (ct_Shared_canTake_1 ht hs hk h f)
    · cases g : sp_or K s t 0 6 with
      | false => exact sp_r1 (by rw [c, hd, g]; simp) (ct_Shared_canTake_2 ht hs hk h f (by rw [g]; rfl))
      | true => exact sp_r0 (by rw [c, hd, g, m0 f]; rfl) (ct_Shared_canTake_3 ht hs hk h f (by rw [g]; decide))
  · have hp := nI_pos (n := u) (by omega)
    by_cases q : u = t
    · have hd : decide (K 13 s < 0 ∨ K 13 s = nI t) = true := by rw [h, q]; exact decide_eq_true (Or.inr rfl)
      by_cases f : m = 0
      · exact sp_r1 (by rw [c, hd, f]; rfl) (ct_Shared_canTake_4 ht hs hk hu h q f)
      · cases g : sp_or K s t 0 6 with
        | false => exact sp_r1 (by rw [c, hd, g]; simp) (ct_Shared_canTake_5 ht hs hk hu h q f (by rw [g]; rfl))
        | true => exact sp_r0 (by rw [c, hd, g, m0 f]; rfl) (ct_Shared_canTake_6 ht hs hk hu h q f (by rw [g]; decide))
    · exact sp_r0 (by rw [c, h]; simp [hp, nI_neq hu ht q]) (ct_Shared_canTake_7 ht hs hk hu h q)
theorem sp_len0 (hr : cw_row K s l) : K 19 s ≤ 0 ↔ l = [] := by
  have := hr.2.1
  rw [hr.1]
  constructor
  · intro h
    cases l with
    | nil => rfl
    | cons a r => exact absurd h (nI_nle (by simp) (by omega))
  · intro h; rw [h]; decide
theorem cl_mq_Lock (ht : t < 6) (hs : s < 8) (ho : cw_okr K) (hr : cw_row K s l) (hm : m = 0 ∨ m = 1) (hk : cw_cl (K 12 s) = 4) : sh_cM A md_Lock_mustQueue [.ref (A (20 + s)), .ref (A (10 + t)), .int m] K L (.inl (some (.int (sp_b (sp_mq K t s m l))))) K L := by
  have c0 : ¬ K 12 s = 4 ∧ ¬ K 12 s = 5 := by rcases cw_k4 hk with e | e <;> rw [e] <;> decide
  by_cases h : K 19 s ≤ 0
  · refine sp_r0 ?_ (ct_Lock_mustQueue_1 ht hs hk h)
    rw [(sp_len0 hr).mp h]
    simp [sp_mq, c0]
  · have hl : 0 < l.length := List.length_pos_iff.mpr (fun e => h ((sp_len0 hr).mpr e))
    by_cases e : K 12 s = 1
    · rcases ho s hs with g | ⟨u, hu, g⟩
      · exact sp_r1 (by simp [sp_mq, e, g, nI_m1 (u := t) (by omega), hl]) (ct_Lock_mustQueue_2 ht hs hk h e g)
      · by_cases f : u = t
        · exact sp_r0 (by simp [sp_mq, e, g, f]) (ct_Lock_mustQueue_3 ht hs hk h e hu g f)
        · exact sp_r1 (by simp [sp_mq, e, g, nI_neq hu ht f, hl]) (ct_Lock_mustQueue_4 ht hs hk h e hu g f)
    · exact sp_r1 (by simp [sp_mq, e, c0, hl]) (ct_Lock_mustQueue_5 ht hs hk h e)
theorem cl_mq_Semaphore (ht : t < 6) (hs : s < 8) (ho : cw_okr K) (hr : cw_row K s l) (hm : m = 0 ∨ m = 1) (hk : cw_cl (K 12 s) = 5) : sh_cM A md_Semaphore_mustQueue [.ref (A (20 + s)), .ref (A (10 + t)), .int m] K L (.inl (some (.int (sp_b (sp_mq K t s m l))))) K L := by
  have c0 : ¬ K 12 s = 4 ∧ ¬ K 12 s = 5 ∧ ¬ K 12 s = 1 := by rcases cw_k5 hk with e | e <;> rw [e] <;> decide
  by_cases h : K 19 s ≤ 0
  · refine sp_r0 ?_ (ct_Semaphore_mustQueue_1 ht hs hk h)
    rw [(sp_len0 hr).mp h]
    simp [sp_mq, c0]
  · have hl : 0 < l.length := List.length_pos_iff.mpr (fun e => h ((sp_len0 hr).mpr e))
    exact sp_r1 (by simp [sp_mq, c0, hl]) (ct_Semaphore_mustQueue_2 ht hs hk h)
theorem cl_mq_Latch (ht : t < 6) (hs : s < 8) (ho : cw_okr K) (hr : cw_row K s l) (hm : m = 0 ∨ m = 1) (hk : cw_cl (K 12 s) = 6) : sh_cM A md_Latch_mustQueue [.ref (A (20 + s)), .ref (A (10 + t)), .int m] K L (.inl (some (.int (sp_b (sp_mq K t s m l))))) K L :=
  sp_r0 (by simp [sp_mq, cw_k6 hk]) (ct_Latch_mustQueue_1 ht hs hk)
theorem sp_fw_lt (hr : cw_row K s l) {u : Nat} (h : sp_fw K l = some u) : u < 6 := by
  obtain ⟨i, hi⟩ := List.getElem?_of_mem (List.mem_of_find?_eq_some h)
  exact (hr.2.2 i u hi).2
theorem cl_mq_Shared (ht : t < 6) (hs : s < 8) (ho : cw_okr K) (hr : cw_row K s l) (hm : m = 0 ∨ m = 1) (hk : cw_cl (K 12 s) = 7) : sh_cM A md_Shared_mustQueue [.ref (A (20 + s)), .ref (A (10 + t)), .int m] K L (.inl (some (.int (sp_b (sp_mq K t s m l))))) K L := by
  have e := cw_k7 hk
  by_cases h1 : 0 < K 17 (6 * s + t)
  · exact sp_r0 (by simp [sp_mq, e, h1]) (ct_Shared_mustQueue_1 ht hs hr hk h1)
  · have c : ¬ K 13 s = nI t → sp_mq K t s m l = l.any (fun u => decide (m = 1) || decide (K 6 u = 1)) := fun q => by simp [sp_mq, e, h1, q]
    have c1 : ¬ K 13 s = nI t → m = 0 → (sp_fw K l = none → sp_mq K t s m l = false) ∧ ∀ u, sp_fw K l = some u → sp_mq K t s m l = true := by
      intro q hm0
      rw [c q, hm0]
      refine ⟨fun hf => ?_, fun u hf => ?_⟩
      · rw [sp_fw, List.find?_eq_none] at hf
        rw [List.any_eq_false]
        intro x hx
        have := hf x hx
        simpa using this
      · rw [List.any_eq_true]
        exact ⟨u, List.mem_of_find?_eq_some hf, by have := List.find?_some hf; simpa using this⟩
    have c2 : ¬ K 13 s = nI t → ¬ m = 0 → (l = [] → sp_mq K t s m l = false) ∧ (¬ l = [] → sp_mq K t s m l = true) := by
      intro q hm0
      rw [c q, hm.resolve_left hm0]
      refine ⟨fun hf => by rw [hf]; rfl, fun hf => ?_⟩
      cases l with
      | nil => exact absurd rfl hf
      | cons a r => simp
    rcases ho s hs with g | ⟨u, hu, g⟩
    · have q : ¬ K 13 s = nI t := by rw [g]; exact nI_m1 (by omega)
      by_cases f : m = 0
      · cases hf : sp_fw K l with
        | none => exact sp_r0 ((c1 q f).1 hf) (ct_Shared_mustQueue_2 ht hs hr hk h1 g f hf)
        | some w => exact sp_r1 ((c1 q f).2 w hf) (ct_Shared_mustQueue_3 ht hs hr hk h1 g f (sp_fw_lt hr hf) hf)
      · by_cases h : K 19 s ≤ 0
        · exact sp_r0 ((c2 q f).1 ((sp_len0 hr).mp h)) (ct_Shared_mustQueue_4 ht hs hr hk h1 g f h)
        · exact sp_r1 ((c2 q f).2 (fun w => h ((sp_len0 hr).mpr w))) (ct_Shared_mustQueue_5 ht hs hr hk h1 g f h)
    · by_cases w : u = t
      · exact sp_r0 (by simp [sp_mq, e, h1, g, w]) (ct_Shared_mustQueue_6 ht hs hr hk h1 hu g w)
      · have q : ¬ K 13 s = nI t := by rw [g]; exact nI_neq hu ht w
        by_cases f : m = 0
        · cases hf : sp_fw K l with
          | none => exact sp_r0 ((c1 q f).1 hf) (ct_Shared_mustQueue_7 ht hs hr hk h1 hu g w f hf)
          | some z => exact sp_r1 ((c1 q f).2 z hf) (ct_Shared_mustQueue_8 ht hs hr hk h1 hu g w f (sp_fw_lt hr hf) hf)
        · by_cases h : K 19 s ≤ 0
          · exact sp_r0 ((c2 q f).1 ((sp_len0 hr).mp h)) (ct_Shared_mustQueue_9 ht hs hr hk h1 hu g w f h)
          · exact sp_r1 ((c2 q f).2 (fun z => h ((sp_len0 hr).mpr z))) (ct_Shared_mustQueue_10 ht hs hr hk h1 hu g w f h)
theorem sp_rq {o : Option Nat} {d : sh_Md} {As : List Value} {v : Value} (h : va_rf (o.map fun u => A (10 + u)) = v) (k : sh_cM A d As K L (.inl (some v)) K L) : sh_cM A d As K L (.inl (some (va_rf (o.map fun u => A (10 + u))))) K L := by rw [h]; exact k
theorem cl_next_Lock (hs : s < 8) (hr : cw_row K s l) (hk : cw_cl (K 12 s) = 4) : sh_cM A md_Gate_next [.ref (A (20 + s))] K L (.inl (some (va_rf ((sp_nx K L s l).map fun u => A (10 + u))))) K L := by
  have c0 : ¬ K 12 s = 3 ∧ ¬ K 12 s = 5 := by rcases cw_k4 hk with e | e <;> rw [e] <;> decide
  cases l with
  | nil => exact sp_rq (by simp [sp_nx, c0]; rfl) (ct_Gate_next_Lock_1 hs hk ((sp_len0 hr).mpr rfl))
  | cons a r => exact sp_rq (by simp [sp_nx, c0]; rfl) (ct_Gate_next_Lock_3 hs hk (fun h => by cases (sp_len0 hr).mp h) (hr.2.2 0 a rfl).2 (hr.2.2 0 a rfl).1)
theorem cl_next_Latch (hs : s < 8) (hr : cw_row K s l) (hk : cw_cl (K 12 s) = 6) : sh_cM A md_Gate_next [.ref (A (20 + s))] K L (.inl (some (va_rf ((sp_nx K L s l).map fun u => A (10 + u))))) K L := by
  have c0 : ¬ K 12 s = 3 ∧ ¬ K 12 s = 5 := by rw [cw_k6 hk]; decide
  cases l with
  | nil => exact sp_rq (by simp [sp_nx, c0]; rfl) (ct_Gate_next_Latch_1 hs hk ((sp_len0 hr).mpr rfl))
  | cons a r => exact sp_rq (by simp [sp_nx, c0]; rfl) (ct_Gate_next_Latch_3 hs hk (fun h => by cases (sp_len0 hr).mp h) (hr.2.2 0 a rfl).2 (hr.2.2 0 a rfl).1)
theorem sp_gp_mem (Y : sh_DD) : ∀ (r : List Nat) (a : Nat), r.foldl (sp_g1 Y) a ∈ a :: r := by
  intro r
  induction r with
  | nil => intro a; simp
  | cons b r ih =>
    intro a
    rw [List.foldl_cons]
    have h1 := ih (sp_g1 Y a b)
    have h2 : sp_g1 Y a b = a ∨ sp_g1 Y a b = b := by unfold sp_g1; split <;> simp
    rcases List.mem_cons.mp h1 with h | h
    · rcases h2 with e | e <;> rw [h, e] <;> simp
    · exact List.mem_cons_of_mem _ (List.mem_cons_of_mem _ h)
theorem sp_nx_mem {X : sh_II} {Y : sh_DD} {u : Nat} (h : sp_nx X Y s l = some u) : u ∈ l := by
  have hh : ∀ {u : Nat}, l.head? = some u → u ∈ l := fun h => List.mem_of_mem_head? (by rw [h]; rfl)
  unfold sp_nx at h
  split at h
  · cases l with
    | nil => cases h
    | cons a r => cases h; exact sp_gp_mem Y r a
  split at h
  · cases hf : sp_fw X l with
    | some w => rw [hf] at h; cases h; exact List.mem_of_find?_eq_some hf
    | none => rw [hf] at h; exact hh h
  · exact hh h
theorem cw_row_lt (hr : cw_row K s l) {u : Nat} (h : u ∈ l) : u < 6 := by
  obtain ⟨i, hi⟩ := List.getElem?_of_mem h
  exact (hr.2.2 i u hi).2
theorem sp_nx_lt (hr : cw_row K s l) {Y : sh_DD} {u : Nat} (h : sp_nx K Y s l = some u) : u < 6 := cw_row_lt hr (sp_nx_mem h)
theorem cl_next_Semaphore (hs : s < 8) (hr : cw_row K s l) (hk : cw_cl (K 12 s) = 5) : sh_cM A md_Semaphore_next [.ref (A (20 + s))] K L (.inl (some (va_rf ((sp_nx K L s l).map fun u => A (10 + u))))) K L := by
  by_cases e : K 12 s = 3
  · cases hg : sp_gp L l with
    | none => exact sp_rq (by simp [sp_nx, e, hg]; rfl) (ct_Semaphore_next_1 hs hr hk e hg)
    | some u =>
      have hn : sp_nx K L s l = some u := by simp [sp_nx, e, hg]
      exact sp_rq (by rw [hn]; rfl) (ct_Semaphore_next_2 hs hr hk e (sp_nx_lt hr hn) hg)
  · have c0 : ¬ K 12 s = 5 := by rcases cw_k5 hk with q | q <;> rw [q] <;> decide
    cases l with
    | nil => exact sp_rq (by simp [sp_nx, c0, e]; rfl) (ct_Semaphore_next_3 hs hr hk e ((sp_len0 hr).mpr rfl))
    | cons a r => exact sp_rq (by simp [sp_nx, c0, e]; rfl) (ct_Semaphore_next_5 hs hr hk e (fun h => by cases (sp_len0 hr).mp h) (hr.2.2 0 a rfl).2 (hr.2.2 0 a rfl).1)
theorem cl_next_Shared (hs : s < 8) (hr : cw_row K s l) (hk : cw_cl (K 12 s) = 7) : sh_cM A md_Shared_next [.ref (A (20 + s))] K L (.inl (some (va_rf ((sp_nx K L s l).map fun u => A (10 + u))))) K L := by
  have e := cw_k7 hk
  cases hf : sp_fw K l with
  | some u =>
    have hn : sp_nx K L s l = some u := by simp [sp_nx, e, hf]
    exact sp_rq (by rw [hn]; rfl) (ct_Shared_next_4 hs hr hk (sp_nx_lt hr hn) hf)
  | none =>
    cases l with
    | nil => exact sp_rq (by simp [sp_nx, e, hf]; rfl) (ct_Shared_next_1 hs hr hk hf ((sp_len0 hr).mpr rfl))
    | cons a r => exact sp_rq (by simp [sp_nx, e, hf]; rfl) (ct_Shared_next_3 hs hr hk hf (fun h => by cases (sp_len0 hr).mp h) (hr.2.2 0 a rfl).2 (hr.2.2 0 a rfl).1)
theorem sp_st {d : sh_Md} {As : List Value} {r : Option Value ⊕ Nat} {K1 K2 : sh_II} {L1 : sh_DD} (h : K1 = K2) (k : sh_cM A d As K L r K2 L1) : sh_cM A d As K L r K1 L1 := by rw [h]; exact k
theorem cl_take_Lock {e : Int32} (ht : t < 6) (hs : s < 8) (hk : cw_cl (K 12 s) = 4) : sh_cM A md_Lock_take [.ref (A (20 + s)), .ref (A (10 + t)), .int m, .int e] K L (.inl none) (sp_tk K t s m e) L := sp_st (by simp [sp_tk, hk]) (ct_Lock_take_1 ht hs hk)
theorem cl_take_Semaphore {e : Int32} (ht : t < 6) (hs : s < 8) (hk : cw_cl (K 12 s) = 5) : sh_cM A md_Semaphore_take [.ref (A (20 + s)), .ref (A (10 + t)), .int m, .int e] K L (.inl none) (sp_tk K t s m e) L := sp_st (by simp [sp_tk, hk]) (ct_Semaphore_take_1 ht hs hk)
theorem cl_take_Latch {e : Int32} (ht : t < 6) (hs : s < 8) (hk : cw_cl (K 12 s) = 6) : sh_cM A md_Latch_take [.ref (A (20 + s)), .ref (A (10 + t)), .int m, .int e] K L (.inl none) (sp_tk K t s m e) L := sp_st (by simp [sp_tk, hk]) (ct_Latch_take_1 ht hs hk)
theorem cl_take_Shared {e : Int32} (ht : t < 6) (hs : s < 8) (hk : cw_cl (K 12 s) = 7) : sh_cM A md_Shared_take [.ref (A (20 + s)), .ref (A (10 + t)), .int m, .int e] K L (.inl none) (sp_tk K t s m e) L := by
  by_cases h : m = 0
  · exact sp_st (by simp [sp_tk, hk, h]) (ct_Shared_take_1 ht hs hk h)
  · exact sp_st (by simp [sp_tk, hk, h]) (ct_Shared_take_2 ht hs hk h)
theorem cl_isBefore0 {j : Nat} {x : Int32} (hj : j < 8) : ∀ n i y, i + n = 8 → sh_cW A md_LockOrder_isBeforeAny (10, [(0, .ref (A 3)), (1, .int (nI j)), (2, .int x), (3, .int y), (4, .int (nI i))], []) K L 0 0 (.inl (some (.int (sp_b (decide (¬ (sp_it K n y &&& x) = 0)))))) K L := by
  intro n
  induction n with
  | zero =>
    intro i y hi
    by_cases h : (y &&& x) = 0
    · rw [show sp_b (decide (¬ (sp_it K 0 y &&& x) = 0)) = 0 by rw [sp_bz]; simp [sp_it, h]]
      exact cb_LockOrder_isBeforeAny_e_10_1 hj (sp_x8 (by omega)) h
    · rw [show sp_b (decide (¬ (sp_it K 0 y &&& x) = 0)) = 1 from sp_b1 (by simp [sp_it, h])]
      exact cb_LockOrder_isBeforeAny_e_10_2 hj (sp_x8 (by omega)) h
  | succ n ih => intro i y hi; exact cb_LockOrder_isBeforeAny_10_1 hj (by omega) (sp_n8 (by omega)) (ih (i + 1) _ (by omega))
theorem cl_isBefore {j : Nat} {x : Int32} (hj : j < 8) : sh_cM A md_LockOrder_isBeforeAny [.ref (A 3), .int (nI j), .int x] K L (.inl (some (.int (sp_b (sp_bef K j x))))) K L := cb_LockOrder_isBeforeAny_p_0_1 hj (cl_isBefore0 hj 7 1 _ rfl)
end CLQ
