/-! the watch over the order, and a reader's wish to write -/
def sp_kw (X : sh_II) (t s : Nat) : Bool := decide (¬ X 24 0 = 0 ∧ cw_cl (X 12 s) = 4 ∧ ¬ (X 13 s = nI t ∧ ¬ X 14 s ≤ 0))
def sp_kb (X : sh_II) (t s : Nat) : Bool := sp_bef X s (sp_own X t)
def sp_kt (X : sh_II) (t s : Nat) : Bool := sp_kw X t s && sp_kb X t s && decide (X 24 0 = 2)
def sp_ko (X : sh_II) (t s : Nat) : sh_II := if sp_kw X t s = true then sp_put (if sp_kb X t s = true then sh_u2 X 25 0 ((X 25 0) + 1) else X) (sp_own X t) s else X
theorem sp_ko_keep {X : sh_II} {t s r : Nat} (h : r ≠ 28 ∧ r ≠ 25) (c : Nat) : sp_ko X t s r c = X r c := by
  unfold sp_ko
  split
  · rw [sp_put_keep h.1]
    split
    · rw [sh_u2_row h.2]
    · rfl
  · rfl
def sp_cw (X : sh_II) (t s : Nat) (m : Int32) : Bool := decide (m = 1 ∧ ¬ X 17 (6 * s + t) ≤ 0 ∧ ¬ X 13 s = nI t)
section CKO
variable {A : Nat → Nat} {K : sh_II} {L : sh_DD} {s t : Nat} {m : Int32}
theorem cl_ko_t (ht : t < 6) (hs : s < 8) (ho : cw_okr K) (hk : cw_cl (K 12 s) = 4) (h : sp_kt K t s = true) : sh_cM A md_Hall_keepOrder [.ref (A 0), .ref (A (10 + t)), .ref (A (20 + s)), .int (nI s)] K L (.inr 4) (sh_u2 K 25 0 ((K 25 0) + 1)) L := by
  simp only [sp_kt, Bool.and_eq_true, decide_eq_true_eq, sp_kw] at h
  obtain ⟨⟨⟨h1, -, h2⟩, h3⟩, h4⟩ := h
  have h3' : ¬ sp_b (sp_bef K s (sp_own K t)) = 0 := by rw [sp_bz]; unfold sp_kb at h3; rw [h3]; decide
  rcases ho s hs with g | ⟨u, hu, g⟩
  · exact ct_Hall_keepOrder_Lock_3 ht hs ho hk h1 g h3' h4
  · by_cases f : u = t
    · exact ct_Hall_keepOrder_Lock_6 ht hs ho hk h1 hu g f (Decidable.byContradiction fun z => h2 ⟨by rw [g, f], z⟩) h3' h4
    · exact ct_Hall_keepOrder_Lock_10 ht hs ho hk h1 hu g f h3' h4
theorem cl_ko (ht : t < 6) (hs : s < 8) (ho : cw_okr K) (hk : cw_cl (K 12 s) = 4) (h : ¬ sp_kt K t s = true) : sh_cM A md_Hall_keepOrder [.ref (A 0), .ref (A (10 + t)), .ref (A (20 + s)), .int (nI s)] K L (.inl none) (sp_ko K t s) L := by
  by_cases h1 : K 24 0 = 0
  · exact sp_st (by unfold sp_ko; exact if_neg (by simp [sp_kw, h1])) (ct_Hall_keepOrder_Lock_1 ht hs ho hk h1)
  · have key : ∀ (hw : sp_kw K t s = true), (sp_kb K t s = false → sp_ko K t s = sp_put K (sp_own K t) s) ∧ (sp_kb K t s = true → ¬ K 24 0 = 2 ∧ sp_ko K t s = sp_put (sh_u2 K 25 0 ((K 25 0) + 1)) (sp_own K t) s) := by
      intro hw
      refine ⟨fun hb => ?_, fun hb => ⟨fun h2 => h (by simp [sp_kt, hw, hb, h2]), ?_⟩⟩
      · unfold sp_ko; rw [if_pos hw, if_neg (by rw [hb]; decide)]
      · unfold sp_ko; rw [if_pos hw, if_pos hb]
    have b0 : sp_kb K t s = false → sp_b (sp_bef K s (sp_own K t)) = 0 := fun hb => (sp_bz _).mpr hb
    have b1 : sp_kb K t s = true → ¬ sp_b (sp_bef K s (sp_own K t)) = 0 := fun hb => by rw [sp_bz]; unfold sp_kb at hb; rw [hb]; decide
    rcases ho s hs with g | ⟨u, hu, g⟩
    · have hw : sp_kw K t s = true := decide_eq_true ⟨h1, hk, fun z => nI_m1 (u := t) (by omega) (g ▸ z.1)⟩
      cases hb : sp_kb K t s with
      | false => exact sp_st ((key hw).1 hb) (ct_Hall_keepOrder_Lock_2 ht hs ho hk h1 g (b0 hb))
      | true => exact sp_st ((key hw).2 hb).2 (ct_Hall_keepOrder_Lock_4 ht hs ho hk h1 g (b1 hb) ((key hw).2 hb).1)
    · by_cases f : u = t
      · by_cases e : K 14 s ≤ 0
        · have hw : sp_kw K t s = true := decide_eq_true ⟨h1, hk, fun z => z.2 e⟩
          cases hb : sp_kb K t s with
          | false => exact sp_st ((key hw).1 hb) (ct_Hall_keepOrder_Lock_5 ht hs ho hk h1 hu g f e (b0 hb))
          | true => exact sp_st ((key hw).2 hb).2 (ct_Hall_keepOrder_Lock_7 ht hs ho hk h1 hu g f e (b1 hb) ((key hw).2 hb).1)
        · exact sp_st (by unfold sp_ko; exact if_neg (by simp only [sp_kw, decide_eq_true_eq]; exact fun z => z.2.2 ⟨by rw [g, f], e⟩)) (ct_Hall_keepOrder_Lock_8 ht hs ho hk h1 hu g f e)
      · have hw : sp_kw K t s = true := decide_eq_true ⟨h1, hk, fun z => nI_neq hu ht f (g ▸ z.1)⟩
        cases hb : sp_kb K t s with
        | false => exact sp_st ((key hw).1 hb) (ct_Hall_keepOrder_Lock_9 ht hs ho hk h1 hu g f (b0 hb))
        | true => exact sp_st ((key hw).2 hb).2 (ct_Hall_keepOrder_Lock_11 ht hs ho hk h1 hu g f (b1 hb) ((key hw).2 hb).1)
theorem cl_cw_t (ht : t < 6) (hs : s < 8) (ho : cw_okr K) (hk : cw_cl (K 12 s) = 7) (h : sp_cw K t s m = true) : sh_cM A md_Shared_checkWish [.ref (A (20 + s)), .ref (A (10 + t)), .int m] K L (.inr 4) K L := by
  simp only [sp_cw, decide_eq_true_eq] at h
  obtain ⟨h1, h2, h3⟩ := h
  rcases ho s hs with g | ⟨u, hu, g⟩
  · exact ct_Shared_checkWish_2 ht hs hk h1 h2 g
  · exact ct_Shared_checkWish_4 ht hs hk h1 h2 hu g (fun e => h3 (by rw [g, e]))
theorem cl_cw (ht : t < 6) (hs : s < 8) (ho : cw_okr K) (hk : cw_cl (K 12 s) = 7) (h : ¬ sp_cw K t s m = true) : sh_cM A md_Shared_checkWish [.ref (A (20 + s)), .ref (A (10 + t)), .int m] K L (.inl none) K L := by
  simp only [sp_cw, decide_eq_true_eq] at h
  by_cases h1 : m = 1
  · by_cases h2 : K 17 (6 * s + t) ≤ 0
    · exact ct_Shared_checkWish_1 ht hs hk h1 h2
    · rcases ho s hs with g | ⟨u, hu, g⟩
      · exact absurd ⟨h1, h2, fun z => nI_m1 (u := t) (by omega) (g ▸ z)⟩ h
      · exact ct_Shared_checkWish_3 ht hs hk h1 h2 hu g (Decidable.byContradiction fun e => h ⟨h1, h2, fun z => nI_neq hu ht e (g ▸ z)⟩)
  · exact ct_Shared_checkWish_5 ht hs hk h1
theorem cl_kon_Semaphore (ht : t < 6) (hs : s < 8) (ho : cw_okr K) (hk : cw_cl (K 12 s) = 5) : sh_cM A md_Hall_keepOrder [.ref (A 0), .ref (A (10 + t)), .ref (A (20 + s)), .int (nI s)] K L (.inl none) K L := by
  by_cases h1 : K 24 0 = 0
  · exact ct_Hall_keepOrder_Semaphore_1 ht hs ho hk h1
  · exact ct_Hall_keepOrder_Semaphore_2 ht hs ho hk h1
theorem cl_kon_Latch (ht : t < 6) (hs : s < 8) (ho : cw_okr K) (hk : cw_cl (K 12 s) = 6) : sh_cM A md_Hall_keepOrder [.ref (A 0), .ref (A (10 + t)), .ref (A (20 + s)), .int (nI s)] K L (.inl none) K L := by
  by_cases h1 : K 24 0 = 0
  · exact ct_Hall_keepOrder_Latch_1 ht hs ho hk h1
  · exact ct_Hall_keepOrder_Latch_2 ht hs ho hk h1
theorem cl_kon_Shared (ht : t < 6) (hs : s < 8) (ho : cw_okr K) (hk : cw_cl (K 12 s) = 7) : sh_cM A md_Hall_keepOrder [.ref (A 0), .ref (A (10 + t)), .ref (A (20 + s)), .int (nI s)] K L (.inl none) K L := by
  by_cases h1 : K 24 0 = 0
  · exact ct_Hall_keepOrder_Shared_1 ht hs ho hk h1
  · exact ct_Hall_keepOrder_Shared_2 ht hs ho hk h1
end CKO
