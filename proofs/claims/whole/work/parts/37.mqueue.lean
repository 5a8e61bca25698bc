/-! the reference: back to the lock -/
def sp_mqD (D : sh_DD) (t : Nat) : sh_DD := sh_u2 (sh_u2 D 7 t 13830554455654793216) 8 t ((sh_u2 D 7 t 13830554455654793216) 11 0)
def sp_mqI (I : sh_II) (q t : Nat) (x : Int32) (l : List Nat) : sh_II := sp_ment (sh_u2 (sh_u2 I 10 t x) 6 t 0) q t l
/-- out of the row of s, where t waits there -/
def sp_MR (I : sh_II) (D : sh_DD) (t s : Nat) (x : Int32) (I1 : sh_II) (D1 : sh_DD) : Prop :=
  (I 5 t = nI s ∧ ∃ l, cw_row I s l ∧ l.Nodup ∧ t ∈ l ∧ ((x = 1 ∧ vf_n64 (FP.dsub (D 11 0) (D 8 t)) ∧ vf_n64 (FP.dadd (D 20 s) (FP.dsub (D 11 0) (D 8 t))) ∧ I1 = sp_mrem (sh_u2 I 21 s ((I 21 s) + 1)) s t l ∧ D1 = sh_u2 D 20 s (FP.dadd (D 20 s) (FP.dsub (D 11 0) (D 8 t)))) ∨ (¬ x = 1 ∧ I1 = sp_mrem I s t l ∧ D1 = D))) ∨ (¬ I 5 t = nI s ∧ I1 = I ∧ D1 = D)
def sp_MQ (I : sh_II) (D : sh_DD) (t s : Nat) (x : Int32) (I' : sh_II) (D' : sh_DD) : Prop := ∃ q l I1 D1, q < 8 ∧ I 16 s = nI q ∧ ¬ I 12 q = 6 ∧ sp_MR I D t s x I1 D1 ∧ cw_row I1 q l ∧ l.length < 6 ∧ sp_mvok q (l ++ [t]).length (sp_mqI I1 q t x l) (sp_mqD D1 t) (l ++ [t]) ∧ I' = (sp_mserve q (l ++ [t]).length (sp_mqI I1 q t x l) (sp_mqD D1 t) (l ++ [t])).1 ∧ D' = (sp_mserve q (l ++ [t]).length (sp_mqI I1 q t x l) (sp_mqD D1 t) (l ++ [t])).2
theorem cw_row_ment {K : sh_II} {s t : Nat} {l : List Nat} (ht : t < 6) (hl : l.length < 6) (hr : cw_row K s l) : cw_row (sp_ment K s t l) s (l ++ [t]) := by
  have h := cw_row_enq (m := 0) ht hl hr
  unfold sp_ment
  exact cw_row_f (X := sp_enq K s t 0 l) (fun c => rfl) (fun c => rfl) h
theorem ml_queue {mq : Nat} {A : Nat → Nat} {I I' : sh_II} {D D' : sh_DD} {t s : Nat} {x : Int32} (ht : t < 6) (hs : s < 8) (hg : sp_MQ I D t s x I' D') : sh_mM mq A md_Mod_queue [.ref mq, .int (nI t), .int (nI s), .int x] I D none I' D' := by
  obtain ⟨q, l, I1, D1, hq, eq, hz, hR, hrow, hlen, hv, rfl, rfl⟩ := hg
  have hrow2 : cw_row (sh_u2 (sh_u2 I1 10 t x) 6 t 0) q l := cw_row_up (by decide) (cw_row_up (by decide) hrow)
  have hrow3 := cw_row_ment ht hlen hrow2
  rcases hR with ⟨e, l0, hr, hn, hm, h⟩ | ⟨e, rfl, rfl⟩
  · rcases h with ⟨hx, v1, v2, rfl, rfl⟩ | ⟨hx, rfl, rfl⟩
    · exact mx_Mod_queue_1 ht hs hq eq e hx v1 v2 (cw_row_up (by decide) hr) hn hm hrow2 hlen hz hrow3 hv
    · exact mx_Mod_queue_2 ht hs hq eq e hx hr hn hm hrow2 hlen hz hrow3 hv
  · exact mx_Mod_queue_3 ht hs hq eq e hrow2 hlen hz hrow3 hv
theorem ml_id {P : Prop} (h : P) : P := h
