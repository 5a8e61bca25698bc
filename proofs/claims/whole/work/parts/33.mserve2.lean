/-! the reference's serve -/
def sp_mvI (I : sh_II) (s t : Nat) (l : List Nat) : sh_II := if I 9 t ≤ 0 then sp_mtk (sh_u2 (sh_u2 (sh_u2 (sp_mrem I s t l) 21 s ((I 21 s) + 1)) 1 t 0) 4 t 1) t s (I 6 t)
  else sh_u2 (sh_u2 (sh_u2 (sh_u2 (sh_u2 (sh_u2 (sp_mrem I s t l) 21 s ((I 21 s) + 1)) 1 t 0) 4 t (I 10 t)) 13 s (nI t)) 14 s (I 9 t)) 9 t 0
def sp_mserve (s : Nat) : Nat → sh_II → sh_DD → List Nat → sh_II × sh_DD
  | 0, I, D, _ => (I, D)
  | n + 1, I, D, l => match sp_nx I D s l with
    | none => (I, D)
    | some t => if sp_can I t s (I 6 t) = true then sp_mserve s n (sp_mvI I s t l) (sp_svL D s t (D 11 0)) (sp_rm l t) else (I, D)
def sp_mvok (s : Nat) : Nat → sh_II → sh_DD → List Nat → Prop
  | 0, I, _, l => cw_row I s l ∧ l = []
  | n + 1, I, D, l => cw_row I s l ∧ l.Nodup ∧ (∀ v ∈ l, I 6 v = 0 ∨ I 6 v = 1) ∧ ¬ l = [] ∧ ∀ t, sp_nx I D s l = some t → sp_can I t s (I 6 t) = true → vf_n64 (FP.dsub (D 11 0) (D 8 t)) ∧ vf_n64 (FP.dadd (D 20 s) (FP.dsub (D 11 0) (D 8 t))) ∧ sp_mvok s n (sp_mvI I s t l) (sp_svL D s t (D 11 0)) (sp_rm l t)
theorem sp_mvI_keep {I : sh_II} {s t : Nat} {l : List Nat} {r : Nat} (h : r ≠ 18 ∧ r ≠ 19 ∧ r ≠ 5 ∧ r ≠ 21 ∧ r ≠ 1 ∧ r ≠ 4 ∧ r ≠ 13 ∧ r ≠ 14 ∧ r ≠ 15 ∧ r ≠ 17 ∧ r ≠ 9) (c : Nat) : sp_mvI I s t l r c = I r c := by
  obtain ⟨h18, h19, h5, h21, h1, h4, h13, h14, h15, h17, h9⟩ := h
  unfold sp_mvI
  split
  · rw [sp_mtk_keep ⟨h13, h14, h15, h17⟩, sh_u2_row h4, sh_u2_row h1, sh_u2_row h21, sp_mrem_keep ⟨h18, h19, h5⟩]
  · rw [sh_u2_row h9, sh_u2_row h14, sh_u2_row h13, sh_u2_row h4, sh_u2_row h1, sh_u2_row h21, sp_mrem_keep ⟨h18, h19, h5⟩]
theorem sp_mserve_keepK {s r : Nat} (h : r ≠ 18 ∧ r ≠ 19 ∧ r ≠ 5 ∧ r ≠ 21 ∧ r ≠ 1 ∧ r ≠ 4 ∧ r ≠ 13 ∧ r ≠ 14 ∧ r ≠ 15 ∧ r ≠ 17 ∧ r ≠ 9) (c : Nat) {n : Nat} {I : sh_II} {D : sh_DD} {l : List Nat} : (sp_mserve s n I D l).1 r c = I r c := by
  induction n generalizing I D l with
  | zero => rfl
  | succ n ih =>
    unfold sp_mserve
    split
    · rfl
    · split
      · rw [ih, sp_mvI_keep h]
      · rfl
theorem sp_mserve_keepL {s r : Nat} (h : r ≠ 20) (c : Nat) {n : Nat} {I : sh_II} {D : sh_DD} {l : List Nat} : (sp_mserve s n I D l).2 r c = D r c := by
  induction n generalizing I D l with
  | zero => rfl
  | succ n ih =>
    unfold sp_mserve
    split
    · rfl
    · split
      · rw [ih]; exact sh_u2_row h c
      · rfl
theorem ml_serve0 {mq : Nat} {A : Nat → Nat} {s : Nat} (hs : s < 8) : ∀ n (I : sh_II) (D : sh_DD) (l : List Nat), ¬ I 12 s = 6 → sp_mvok s n I D l → sh_mW mq A md_Mod_serve (0, [(0, .ref mq), (1, .int (nI s))], []) I D 0 0 none (sp_mserve s n I D l).1 (sp_mserve s n I D l).2 := by
  intro n
  induction n with
  | zero =>
    intro I D l hz hv
    exact mb_Mod_serve_e_0_1 hs hz ((sp_len0 hv.1).mpr hv.2)
  | succ n ih =>
    intro I D l hz hv
    obtain ⟨hr, hn, hm, hne, hv⟩ := hv
    have hy : ¬ I 19 s ≤ 0 := fun h => hne ((sp_len0 hr).mp h)
    cases l with
    | nil => exact absurd rfl hne
    | cons a r =>
      have hnx := sp_nx_mn (s := s) (Y := D) hm
      have ht := sp_nx_lt hr hnx
      have hmem := sp_nx_mem hnx
      by_cases e : sp_can I (r.foldl (sp_mn I D s) a) s (I 6 (r.foldl (sp_mn I D s) a)) = true
      · obtain ⟨v1, v2, hv'⟩ := hv _ hnx e
        rw [show sp_mserve s (n + 1) I D (a :: r) = sp_mserve s n (sp_mvI I s (r.foldl (sp_mn I D s) a) (a :: r)) (sp_svL D s (r.foldl (sp_mn I D s) a) (D 11 0)) (sp_rm (a :: r) (r.foldl (sp_mn I D s) a)) by rw [sp_mserve, hnx]; exact if_pos e]
        have hz' : ¬ sp_mvI I s (r.foldl (sp_mn I D s) a) (a :: r) 12 s = 6 := by rw [sp_mvI_keep (by decide)]; exact hz
        have hk := ih _ _ _ hz' hv'
        by_cases hb : I 9 (r.foldl (sp_mn I D s) a) ≤ 0
        · refine mb_Mod_serve_0_2 hs hz hy hr hn hm ht hnx (by rw [e]; decide) hmem v1 v2 hb ?_
          rw [show sp_mvI I s (r.foldl (sp_mn I D s) a) (a :: r) = _ from if_pos hb] at hk ⊢
          exact hk
        · refine mb_Mod_serve_0_3 hs hz hy hr hn hm ht hnx (by rw [e]; decide) hmem v1 v2 hb ?_
          rw [show sp_mvI I s (r.foldl (sp_mn I D s) a) (a :: r) = _ from if_neg hb] at hk ⊢
          exact hk
      · rw [show sp_mserve s (n + 1) I D (a :: r) = (I, D) by rw [sp_mserve, hnx]; exact if_neg e]
        exact mb_Mod_serve_0_1 hs hz hy hr hn hm ht hnx ((sp_bz _).mpr (by simpa using e))
theorem ml_serve {mq : Nat} {A : Nat → Nat} {s : Nat} {I : sh_II} {D : sh_DD} {l : List Nat} (hs : s < 8) (hz : ¬ I 12 s = 6) (hr : cw_row I s l) (hv : sp_mvok s l.length I D l) : sh_mM mq A md_Mod_serve [.ref mq, .int (nI s)] I D none (sp_mserve s l.length I D l).1 (sp_mserve s l.length I D l).2 := ml_serve0 hs l.length I D l hz hv
