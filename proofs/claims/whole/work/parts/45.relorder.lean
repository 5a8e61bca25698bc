section RLO
theorem bt_sh (x : Int32) {j : Nat} (hj : j < 8) : (x >>> ((nI j) &&& 31)).toBitVec = x.toBitVec.sshiftRight j := by
  have e : ((nI j) &&& 31).toBitVec.smod 32 = BitVec.ofNat 32 j := by
    rcases j with _ | _ | _ | _ | _ | _ | _ | _ | j
    all_goals first
      | decide
      | omega
  show BitVec.sshiftRight' x.toBitVec (((nI j) &&& 31).toBitVec.smod 32) = _
  rw [e]
  unfold BitVec.sshiftRight'
  rw [BitVec.toNat_ofNat, Nat.mod_eq_of_lt (by omega)]
theorem bt_and1 (x : Int32) : (x &&& 1) = 0 ↔ x.toBitVec.getLsbD 0 = false := by
  rw [← Int32.toBitVec_inj]
  show x.toBitVec &&& 1#32 = 0#32 ↔ _
  constructor
  · intro h
    have := congrArg (fun z => z.getLsbD 0) h
    simpa using this
  · intro h
    apply BitVec.eq_of_getLsbD_eq
    intro i hi
    by_cases e : i = 0
    · subst e; rw [BitVec.getLsbD_and, h]; simp
    · simp [e]
theorem bt_get (x : Int32) {j : Nat} (hj : j < 8) : rl_bit x j = x.toBitVec.getLsbD j := by
  have h := bt_and1 (x >>> ((nI j) &&& 31))
  have e : (x.toBitVec.sshiftRight j).getLsbD 0 = x.toBitVec.getLsbD j := by
    rw [BitVec.getLsbD_sshiftRight]
    simp [show j < 32 by omega]
  rw [bt_sh x hj, e] at h
  unfold rl_bit
  cases hb : x.toBitVec.getLsbD j
  · rw [hb] at h; simp [h]
  · rw [hb] at h; simp [h]
theorem bt_or (x y : Int32) {j : Nat} (hj : j < 8) : rl_bit (x ||| y) j = (rl_bit x j || rl_bit y j) := by
  rw [bt_get _ hj, bt_get _ hj, bt_get _ hj]
  show (x.toBitVec ||| y.toBitVec).getLsbD j = _
  rw [BitVec.getLsbD_or]
theorem bt_one {i : Nat} (hi : i < 8) (j : Nat) : ((1 : Int32) <<< ((nI i) &&& 31)).toBitVec.getLsbD j = decide (j = i) := by
  have e : ((1 : Int32) <<< ((nI i) &&& 31)).toBitVec = BitVec.twoPow 32 i := by
    rcases i with _ | _ | _ | _ | _ | _ | _ | _ | i
    all_goals first
      | decide
      | omega
  rw [e, BitVec.getLsbD_twoPow]
  by_cases h : j = i
  · subst h; simp [show j < 32 by omega]
  · have : ¬ i = j := fun x => h x.symm
    simp [h, this]
theorem bt_z {j : Nat} (hj : j < 8) : rl_bit 0 j = false := by
  rw [bt_get _ hj]
  show (0#32).getLsbD j = false
  simp
theorem bt_nz (x y : Int32) : ¬ (x &&& y) = 0 ↔ ∃ i, x.toBitVec.getLsbD i = true ∧ y.toBitVec.getLsbD i = true := by
  rw [← Int32.toBitVec_inj]
  show ¬ x.toBitVec &&& y.toBitVec = 0#32 ↔ _
  constructor
  · intro h
    refine Classical.byContradiction fun hn => h ?_
    apply BitVec.eq_of_getLsbD_eq
    intro i hi
    rw [BitVec.getLsbD_and]
    cases h1 : x.toBitVec.getLsbD i
    · simp
    · cases h2 : y.toBitVec.getLsbD i
      · simp
      · exact absurd ⟨i, h1, h2⟩ hn
  · rintro ⟨i, h1, h2⟩ h
    have := congrArg (fun z => z.getLsbD i) h
    simp [h1, h2] at this
end RLO
section RLP
def co_C (B : Nat → Nat → Bool) (S : Nat → Bool) : Prop := ∀ i j, i < 8 → j < 8 → S i = true → B i j = true → S j = true
def co_n (S : Nat → Bool) : Nat := ((List.range 8).filter S).length
/-- one more round -/
def co_S (B : Nat → Nat → Bool) (S T : Nat → Bool) : Prop := (∀ j, j < 8 → S j = true → T j = true) ∧ (∀ i j, i < 8 → j < 8 → S i = true → B i j = true → T j = true) ∧ ∀ C, co_C B C → (∀ j, j < 8 → S j = true → C j = true) → ∀ j, j < 8 → T j = true → C j = true
theorem co_le (S T : Nat → Bool) : ∀ z : List Nat, (∀ j, j ∈ z → S j = true → T j = true) → (z.filter S).length ≤ (z.filter T).length := by
  intro z
  induction z with
  | nil => intro _; exact Nat.le_refl _
  | cons a z ih =>
    intro h
    have := ih (fun j hj => h j (by simp [hj]))
    rw [List.filter_cons, List.filter_cons]
    by_cases ha : S a = true
    · simp [ha, h a (by simp) ha]; exact this
    · simp [ha]; split
      · simp; omega
      · exact this
theorem co_lt (S T : Nat → Bool) : ∀ z : List Nat, (∀ j, j ∈ z → S j = true → T j = true) → (∃ j, j ∈ z ∧ T j = true ∧ ¬ S j = true) → (z.filter S).length + 1 ≤ (z.filter T).length := by
  intro z
  induction z with
  | nil => rintro _ ⟨j, hj, -⟩; cases hj
  | cons a z ih =>
    rintro h ⟨j, hj, h1, h2⟩
    have le := co_le S T z (fun j hj => h j (by simp [hj]))
    rw [List.filter_cons, List.filter_cons]
    by_cases ha : S a = true
    · have hjz : j ∈ z := by
        rcases List.mem_cons.mp hj with e | e
        · subst e; exact absurd ha h2
        · exact e
      have := ih (fun j hj => h j (by simp [hj])) ⟨j, hjz, h1, h2⟩
      simp [ha, h a (by simp) ha]; omega
    · by_cases hb : T a = true
      · simp [ha, hb]; omega
      · have hjz : j ∈ z := by
          rcases List.mem_cons.mp hj with e | e
          · subst e; exact absurd h1 hb
          · exact e
        have := ih (fun j hj => h j (by simp [hj])) ⟨j, hjz, h1, h2⟩
        simp [ha, hb]; omega
theorem co_full {B : Nat → Nat → Bool} {S : Nat → Bool} (h : 8 ≤ co_n S) : co_C B S := by
  intro i j _ hj _ _
  refine Classical.byContradiction fun hn => ?_
  have := co_lt S (fun _ => true) (List.range 8) (fun _ _ _ => rfl) ⟨j, by simp [hj], rfl, hn⟩
  unfold co_n at h
  have h8 : ((List.range 8).filter (fun _ => true)).length = 8 := by decide
  omega
theorem co_step {B : Nat → Nat → Bool} {S T : Nat → Bool} {n : Nat} (hs : co_S B S T) (h : 8 ≤ co_n S + (n + 1) ∨ co_C B S) : 8 ≤ co_n T + n ∨ co_C B T := by
  by_cases he : ∀ j, j < 8 → T j = true → S j = true
  · exact .inr (fun i j hi hj h1 h2 => hs.2.1 i j hi hj (he i hi h1) h2)
  · rcases h with h | h
    · left
      have : ∃ j, j < 8 ∧ T j = true ∧ ¬ S j = true := Classical.byContradiction fun hn => he (fun j hj hT => Classical.byContradiction fun hS => hn ⟨j, hj, hT, hS⟩)
      obtain ⟨j, hj, h1, h2⟩ := this
      have := co_lt S T (List.range 8) (fun j hj => hs.1 j (by simpa using hj)) ⟨j, by simp [hj], h1, h2⟩
      unfold co_n at *
      omega
    · exact absurd (hs.2.2 S h (fun _ _ h => h)) he
/-- the class's rounds -/
theorem sp_aft_bit {X : sh_II} {y : Int32} {j : Nat} (hj : j < 8) : rl_bit (sp_aft X y) j = true ↔ ∃ i, i < 8 ∧ rl_bit y i = true ∧ rl_bit (X 28 i) j = true := by
  have g : ∀ (z : List Nat) (a : Int32), rl_bit (z.foldl (sp_a1 X y) a) j = true ↔ rl_bit a j = true ∨ ∃ i, i ∈ z ∧ rl_bit y i = true ∧ rl_bit (X 28 i) j = true := by
    intro z
    induction z with
    | nil => intro a; simp
    | cons b z ih =>
      intro a
      rw [List.foldl_cons, ih]
      have e : rl_bit (sp_a1 X y a b) j = true ↔ rl_bit a j = true ∨ (rl_bit y b = true ∧ rl_bit (X 28 b) j = true) := by
        unfold sp_a1
        by_cases hb : ((y >>> ((nI b) &&& 31)) &&& 1) = 0
        · have : rl_bit y b = false := by unfold rl_bit; simp [hb]
          rw [if_pos hb, this]; simp
        · have : rl_bit y b = true := by unfold rl_bit; simp [hb]
          rw [if_neg hb, this, bt_or _ _ hj]; simp
      rw [e]
      constructor
      · rintro ((h | h) | ⟨i, h1, h2⟩)
        · exact .inl h
        · exact .inr ⟨b, by simp, h⟩
        · exact .inr ⟨i, by simp [h1], h2⟩
      · rintro (h | ⟨i, h1, h2⟩)
        · exact .inl (.inl h)
        · rcases List.mem_cons.mp h1 with e | e
          · subst e; exact .inl (.inr h2)
          · exact .inr ⟨i, e, h2⟩
  unfold sp_aft
  rw [g]
  simp [bt_z hj, List.mem_range']
theorem co_cls {X : sh_II} {y : Int32} : co_S (fun i j => rl_bit (X 28 i) j) (rl_bit y) (rl_bit (y ||| sp_aft X y)) := by
  refine ⟨fun j hj h => ?_, fun i j hi hj h1 h2 => ?_, fun C hC hS j hj h => ?_⟩
  · rw [bt_or _ _ hj, h]; rfl
  · rw [bt_or _ _ hj, (sp_aft_bit hj).mpr ⟨i, hi, h1, h2⟩]; simp
  · rw [bt_or _ _ hj, Bool.or_eq_true, sp_aft_bit hj] at h
    rcases h with h | ⟨i, hi, h1, h2⟩
    · exact hS j hj h
    · exact hC i j hi hj (hS i hi h1) h2
theorem co_it {X : sh_II} : ∀ (n : Nat) (y : Int32), (8 ≤ co_n (rl_bit y) + n ∨ co_C (fun i j => rl_bit (X 28 i) j) (rl_bit y)) → co_C (fun i j => rl_bit (X 28 i) j) (rl_bit (sp_it X n y)) ∧ (∀ j, j < 8 → rl_bit y j = true → rl_bit (sp_it X n y) j = true) ∧ ∀ C, co_C (fun i j => rl_bit (X 28 i) j) C → (∀ j, j < 8 → rl_bit y j = true → C j = true) → ∀ j, j < 8 → rl_bit (sp_it X n y) j = true → C j = true := by
  intro n
  induction n with
  | zero =>
    intro y h
    refine ⟨?_, fun _ _ h => h, fun C _ h => h⟩
    rcases h with h | h
    · exact co_full (S := rl_bit y) (by omega)
    · exact h
  | succ n ih =>
    intro y h
    obtain ⟨a, b, d⟩ := ih (y ||| sp_aft X y) (co_step co_cls h)
    exact ⟨a, fun j hj hy => b j hj (co_cls.1 j hj hy), fun C hC hS => d C hC (co_cls.2.2 C hC hS)⟩
/-- the reference's rounds -/
def ld_S (X : sh_II) (j : Nat) : Bool := decide (¬ X 23 j = 0)
def ld_B (X : sh_II) (i j : Nat) : Bool := decide (¬ X 22 (8 * i + j) = 0)
theorem ld_1_S {X : sh_II} {i r c : Nat} : ld_S (ld_1 i X r) c = true ↔ ld_S X c = true ∨ (c = r ∧ ld_B X i r = true) := by
  unfold ld_1 ld_S ld_B
  by_cases h : X 22 (8 * i + r) = 0
  · simp [h]
  · by_cases e : c = r
    · subst e; simp [h, sh_u2]
    · simp [h, sh_u2, e]
theorem ld_1_B {X : sh_II} {i r a b : Nat} : ld_B (ld_1 i X r) a b = ld_B X a b := by
  unfold ld_1 ld_B
  split
  · rfl
  · simp [sh_u2]
theorem ld_f1_S {i : Nat} : ∀ (z : List Nat) (X : sh_II), (∀ a b, ld_B (z.foldl (ld_1 i) X) a b = ld_B X a b) ∧ ∀ c, ld_S (z.foldl (ld_1 i) X) c = true ↔ ld_S X c = true ∨ (c ∈ z ∧ ld_B X i c = true) := by
  intro z
  induction z with
  | nil => intro X; exact ⟨fun _ _ => by simp only [List.foldl_nil], fun c => by simp only [List.foldl_nil]; simp⟩
  | cons b z ih =>
    intro X
    obtain ⟨h1, h2⟩ := ih (ld_1 i X b)
    rw [List.foldl_cons]
    refine ⟨fun a c => (h1 a c).trans ld_1_B, fun c => ?_⟩
    rw [h2, ld_1_S, ld_1_B]
    constructor
    · rintro ((h | ⟨rfl, h⟩) | ⟨h, h'⟩)
      · exact .inl h
      · exact .inr ⟨by simp, h⟩
      · exact .inr ⟨by simp [h], h'⟩
    · rintro (h | ⟨h, h'⟩)
      · exact .inl (.inl h)
      · rcases List.mem_cons.mp h with e | e
        · subst e; exact .inl (.inr ⟨rfl, h'⟩)
        · exact .inr ⟨e, h'⟩
theorem ld_2_S {X : sh_II} {i : Nat} : (∀ a b, ld_B (ld_2 X i) a b = ld_B X a b) ∧ ∀ c, ld_S (ld_2 X i) c = true ↔ ld_S X c = true ∨ (c < 8 ∧ ld_S X i = true ∧ ld_B X i c = true) := by
  unfold ld_2 ld_r
  by_cases h : X 23 i = 0
  · have : ld_S X i = false := by unfold ld_S; simp [h]
    rw [if_pos h]
    exact ⟨fun _ _ => rfl, fun c => by simp [this]⟩
  · have : ld_S X i = true := by unfold ld_S; simp [h]
    rw [if_neg h]
    obtain ⟨h1, h2⟩ := ld_f1_S (i := i) (List.range' 0 8) X
    refine ⟨h1, fun c => ?_⟩
    rw [h2, this]
    simp [List.mem_range']
theorem ld_f2_S : ∀ (z : List Nat) (X : sh_II), (∀ i, i ∈ z → i < 8) → (∀ a b, ld_B (z.foldl ld_2 X) a b = ld_B X a b) ∧ (∀ c, ld_S X c = true → ld_S (z.foldl ld_2 X) c = true) ∧ (∀ i c, i ∈ z → c < 8 → ld_S X i = true → ld_B X i c = true → ld_S (z.foldl ld_2 X) c = true) ∧ ∀ C, co_C (ld_B X) C → (∀ j, j < 8 → ld_S X j = true → C j = true) → ∀ j, j < 8 → ld_S (z.foldl ld_2 X) j = true → C j = true := by
  intro z
  induction z with
  | nil =>
    intro X _
    simp only [List.foldl_nil]
    exact ⟨fun _ _ => trivial, fun _ h => h, fun i c h => (by cases h), fun C _ h => h⟩
  | cons b z ih =>
    intro X hz
    obtain ⟨h1, h2, h3, h4⟩ := ih (ld_2 X b) (fun i hi => hz i (by simp [hi]))
    obtain ⟨g1, g2⟩ := ld_2_S (X := X) (i := b)
    have eB : ld_B (ld_2 X b) = ld_B X := by funext a c; exact g1 a c
    rw [List.foldl_cons]
    rw [eB] at h1 h3 h4
    refine ⟨h1, fun c h => h2 c ((g2 c).mpr (.inl h)), fun i c hi hc hS hB => ?_, fun C hC hS => h4 C hC (fun j hj h => ?_)⟩
    · rcases List.mem_cons.mp hi with e | e
      · subst e; exact h2 c ((g2 c).mpr (.inr ⟨hc, hS, hB⟩))
      · exact h3 i c e hc ((g2 i).mpr (.inl hS)) hB
    · rcases (g2 j).mp h with h | ⟨-, h, h'⟩
      · exact hS j hj h
      · exact hC b j (hz b (by simp)) hj (hS b (hz b (by simp)) h) h'
theorem co_mod {X : sh_II} : (∀ a b, ld_B (ld_3 X) a b = ld_B X a b) ∧ co_S (ld_B X) (ld_S X) (ld_S (ld_3 X)) := by
  obtain ⟨h1, h2, h3, h4⟩ := ld_f2_S (List.range' 0 8) X (fun i hi => by simp [List.mem_range'] at hi; omega)
  exact ⟨h1, fun j _ => h2 j, fun i j hi hj => h3 i j (by simp [List.mem_range', hi]) hj, h4⟩
theorem co_ld : ∀ (n : Nat) (X : sh_II), (8 ≤ co_n (ld_S X) + n ∨ co_C (ld_B X) (ld_S X)) → co_C (ld_B X) (ld_S (ld_it n X)) ∧ (∀ j, j < 8 → ld_S X j = true → ld_S (ld_it n X) j = true) ∧ ∀ C, co_C (ld_B X) C → (∀ j, j < 8 → ld_S X j = true → C j = true) → ∀ j, j < 8 → ld_S (ld_it n X) j = true → C j = true := by
  intro n
  induction n with
  | zero =>
    intro X h
    refine ⟨?_, fun _ _ h => h, fun C _ h => h⟩
    rcases h with h | h
    · exact co_full (S := ld_S X) (by omega)
    · exact h
  | succ n ih =>
    intro X h
    obtain ⟨e, st⟩ := co_mod (X := X)
    have eB : ld_B (ld_3 X) = ld_B X := by funext a c; exact e a c
    obtain ⟨a, b, d⟩ := ih (ld_3 X) (by rw [eB]; exact co_step st h)
    rw [eB] at a d
    exact ⟨a, fun j hj hy => b j hj (st.1 j hj hy), fun C hC hS => d C hC (st.2.2 C hC hS)⟩
theorem ld_s_S {X : sh_II} {a : Nat} : (∀ i j, ld_B (ld_s X a) i j = ld_B X i j) ∧ ∀ j, j < 8 → ld_S (ld_s X a) j = ld_B X a j := by
  have g : ∀ (z : List Nat) (X : sh_II), (∀ b, z.foldl (ld_0 a) X 22 b = X 22 b) ∧ ∀ c, (c ∈ z → z.foldl (ld_0 a) X 23 c = X 22 (8 * a + c)) ∧ (¬ c ∈ z → z.foldl (ld_0 a) X 23 c = X 23 c) := by
    intro z
    induction z with
    | nil => intro X; simp only [List.foldl_nil]; exact ⟨fun _ => trivial, fun c => ⟨fun h => (by cases h), fun _ => trivial⟩⟩
    | cons b z ih =>
      intro X
      obtain ⟨h1, h2⟩ := ih (ld_0 a X b)
      rw [List.foldl_cons]
      have e22 : ∀ c, ld_0 a X b 22 c = X 22 c := fun c => by unfold ld_0; simp [sh_u2]
      refine ⟨fun c => (h1 c).trans (e22 c), fun c => ⟨fun hc => ?_, fun hc => ?_⟩⟩
      · by_cases hz : c ∈ z
        · rw [(h2 c).1 hz, e22]
        · rw [(h2 c).2 hz]
          have : c = b := (List.mem_cons.mp hc).resolve_right hz
          subst this
          unfold ld_0; simp [sh_u2]
      · have hz : ¬ c ∈ z := fun h => hc (by simp [h])
        have hb : ¬ c = b := fun h => hc (by simp [h])
        rw [(h2 c).2 hz]
        unfold ld_0; simp [sh_u2, hb]
  obtain ⟨g1, g2⟩ := g (List.range' 0 8) X
  refine ⟨fun i j => ?_, fun j hj => ?_⟩
  · unfold ld_B ld_s; rw [g1]
  · unfold ld_S ld_B ld_s; rw [(g2 j).1 (by simp [List.mem_range', hj])]
/-- both ask the same -/
theorem co_eq {K I : sh_II} (hB : ∀ i j, i < 8 → j < 8 → (rl_bit (K 28 i) j = true ↔ ld_B I i j = true)) {a b : Nat} (ha : a < 8) (hb : b < 8) : rl_bit (sp_it K 7 (K 28 a)) b = true ↔ ¬ sp_ld I a 23 b = 0 := by
  have cc : ∀ C, co_C (fun i j => rl_bit (K 28 i) j) C ↔ co_C (ld_B I) C := fun C => ⟨fun h i j hi hj h1 h2 => h i j hi hj h1 ((hB i j hi hj).mpr h2), fun h i j hi hj h1 h2 => h i j hi hj h1 ((hB i j hi hj).mp h2)⟩
  have k7 : 8 ≤ co_n (rl_bit (K 28 a)) + 7 ∨ co_C (fun i j => rl_bit (K 28 i) j) (rl_bit (K 28 a)) := by
    by_cases h : ∃ j, j < 8 ∧ rl_bit (K 28 a) j = true
    · obtain ⟨j, hj, h⟩ := h
      left
      have := co_lt (fun _ => false) (rl_bit (K 28 a)) (List.range 8) (fun _ _ h => by cases h) ⟨j, by simp [hj], h, by decide⟩
      unfold co_n
      omega
    · exact .inr (fun i j hi hj h1 _ => absurd ⟨i, hi, h1⟩ h)
  obtain ⟨p1, p2, p3⟩ := co_it 7 (K 28 a) k7
  obtain ⟨s1, s2⟩ := ld_s_S (X := I) (a := a)
  have eB : ld_B (ld_s I a) = ld_B I := by funext x y; exact s1 x y
  obtain ⟨q1, q2, q3⟩ := co_ld 8 (ld_s I a) (.inl (by omega))
  rw [eB] at q1 q3
  have e : (¬ sp_ld I a 23 b = 0) ↔ ld_S (ld_it 8 (ld_s I a)) b = true := by unfold ld_S sp_ld; simp
  rw [e]
  constructor
  · exact p3 _ ((cc _).mpr q1) (fun j hj h => q2 j hj (by rw [s2 j hj]; exact (hB a j ha hj).mp h)) b hb
  · exact q3 _ ((cc _).mp p1) (fun j hj h => p2 j hj ((hB a j ha hj).mpr (by rw [← s2 j hj]; exact h))) b hb
end RLP
section RLQ
variable {K : sh_II} {L : sh_DD} {I : sh_II} {D : sh_DD} {R : Nat → List Nat} {k c s t : Nat}
theorem own_bit (X : sh_II) (t : Nat) (j : Nat) : (sp_own X t).toBitVec.getLsbD j = true ↔ j < 8 ∧ cw_cl (X 12 j) = 4 ∧ X 13 j = nI t := by
  have g : ∀ (z : List Nat) (y : Int32), (∀ i, i ∈ z → i < 8) → ((z.foldl (sp_o1 X t) y).toBitVec.getLsbD j = true ↔ y.toBitVec.getLsbD j = true ∨ (j ∈ z ∧ cw_cl (X 12 j) = 4 ∧ X 13 j = nI t)) := by
    intro z
    induction z with
    | nil => intro y _; simp only [List.foldl_nil]; simp
    | cons b z ih =>
      intro y hz
      rw [List.foldl_cons, ih _ (fun i hi => hz i (by simp [hi]))]
      have e : (sp_o1 X t y b).toBitVec.getLsbD j = true ↔ y.toBitVec.getLsbD j = true ∨ (j = b ∧ cw_cl (X 12 j) = 4 ∧ X 13 j = nI t) := by
        unfold sp_o1
        by_cases h : cw_cl (X 12 b) = 4 ∧ X 13 b = nI t
        · rw [if_pos h]
          show (y.toBitVec ||| ((1 : Int32) <<< ((nI b) &&& 31)).toBitVec).getLsbD j = true ↔ _
          rw [BitVec.getLsbD_or, bt_one (hz b (by simp)) j]
          by_cases e : j = b
          · subst e; simp [h]
          · simp [e]
        · rw [if_neg h]
          constructor
          · exact .inl
          · rintro (h1 | ⟨rfl, h1⟩)
            · exact h1
            · exact absurd h1 h
      rw [e]
      constructor
      · rintro ((h | ⟨rfl, h⟩) | ⟨h, h'⟩)
        · exact .inl h
        · exact .inr ⟨by simp, h⟩
        · exact .inr ⟨by simp [h], h'⟩
      · rintro (h | ⟨h, h'⟩)
        · exact .inl (.inl h)
        · rcases List.mem_cons.mp h with e | e
          · subst e; exact .inl (.inr ⟨rfl, h'⟩)
          · exact .inr ⟨e, h'⟩
  unfold sp_own
  rw [g _ _ (fun i hi => by simp [List.mem_range'] at hi; omega)]
  have z0 : (0 : Int32).toBitVec.getLsbD j = false := by show (0#32).getLsbD j = false; simp
  rw [z0]
  simp [List.mem_range']
theorem put_at (x : Int32) (s : Nat) : ∀ (z : List Nat) (X : sh_II), z.Nodup → (∀ r b, r ≠ 28 → z.foldl (sp_p1 x s) X r b = X r b) ∧ ∀ i, z.foldl (sp_p1 x s) X 28 i = if i ∈ z ∧ rl_bit x i = true then X 28 i ||| (1 <<< ((nI s) &&& 31)) else X 28 i := by
  intro z
  induction z with
  | nil => intro X _; simp only [List.foldl_nil]; exact ⟨fun _ _ _ => trivial, fun i => by simp⟩
  | cons b z ih =>
    intro X hn
    obtain ⟨hb, hn'⟩ := List.nodup_cons.mp hn
    obtain ⟨h1, h2⟩ := ih (sp_p1 x s X b) hn'
    rw [List.foldl_cons]
    have ek : ∀ r y, (r ≠ 28 ∨ y ≠ b) → sp_p1 x s X b r y = X r y := fun r y h => by
      unfold sp_p1
      split
      · rfl
      · unfold sh_u2; rw [if_neg (fun e => h.elim (fun q => q e.1) (fun q => q e.2))]
    refine ⟨fun r y h => (h1 r y h).trans (ek r y (.inl h)), fun i => ?_⟩
    rw [h2]
    by_cases e : i = b
    · subst e
      rw [if_neg (fun h => hb h.1)]
      unfold sp_p1
      by_cases hx : ((x >>> ((nI i) &&& 31)) &&& 1) = 0
      · have : rl_bit x i = false := by unfold rl_bit; simp [hx]
        rw [if_pos hx]; simp [this]
      · have : rl_bit x i = true := by unfold rl_bit; simp [hx]
        rw [if_neg hx]; simp [this, sh_u2]
    · rw [ek 28 i (.inr e)]
      simp [e]
theorem mput_at (t s : Nat) : ∀ (z : List Nat) (X : sh_II), (∀ r b, r ≠ 22 → z.foldl (od_1 t s) X r b = X r b) ∧ ∀ b, z.foldl (od_1 t s) X 22 b = if ∃ i, i ∈ z ∧ od_c X t i = true ∧ b = 8 * i + s then 1 else X 22 b := by
  intro z
  induction z with
  | nil => intro X; simp only [List.foldl_nil]; exact ⟨fun _ _ _ => trivial, fun i => by simp⟩
  | cons a z ih =>
    intro X
    obtain ⟨h1, h2⟩ := ih (od_1 t s X a)
    rw [List.foldl_cons]
    have ek : ∀ r y, r ≠ 22 → od_1 t s X a r y = X r y := fun r y h => by
      unfold od_1
      split
      · exact sh_u2_row h y
      · rfl
    have ec : ∀ i, od_c (od_1 t s X a) t i = od_c X t i := fun i => by
      unfold od_c
      rw [ek 12 i (by decide), ek 13 i (by decide)]
    refine ⟨fun r y h => (h1 r y h).trans (ek r y h), fun b => ?_⟩
    rw [h2]
    simp only [ec]
    by_cases hz : ∃ i, i ∈ z ∧ od_c X t i = true ∧ b = 8 * i + s
    · rw [if_pos hz]
      obtain ⟨i, a1, a2, a3⟩ := hz
      rw [if_pos ⟨i, by simp [a1], a2, a3⟩]
    · rw [if_neg hz]
      by_cases ha : od_c X t a = true ∧ b = 8 * a + s
      · rw [if_pos ⟨a, by simp, ha⟩]
        unfold od_1
        rw [if_pos ha.1, ha.2, sh_u2_eq]
      · rw [if_neg (fun h => by
          obtain ⟨i, a1, a2, a3⟩ := h
          rcases List.mem_cons.mp a1 with e | e
          · subst e; exact ha ⟨a2, a3⟩
          · exact hz ⟨i, e, a2, a3⟩)]
        unfold od_1
        by_cases hc : od_c X t a = true
        · rw [if_pos hc]
          exact sh_u2_col (fun e => ha ⟨hc, e⟩) 22
        · rw [if_neg hc]
theorem rl_clk (x : Int32) (h : rl_kd x) : cw_cl x = 4 ↔ x = 0 ∨ x = 1 := by
  rcases h with h | h | h | h | h | h | h | h <;> subst h <;> decide
theorem rl_odc (H : rl_All K L I D R k c) {o : Nat} (ho : o < 8) : od_c I t o = true ↔ cw_cl (K 12 o) = 4 ∧ K 13 o = nI t := by
  have y := H.2.1 o ho
  unfold od_c
  rw [y.1, y.2.1, rl_clk _ y.2.2.2.2.2.2.2.1]
  simp
theorem rl_kw (H : rl_All K L I D R k c) (hs : s < 8) (ht : t < 6) (hc : c < 2 ^ 31) : sp_kw K t s = sp_mkw I t s := by
  have y := H.2.1 s hs
  have g := H.2.2.2.2.2.2
  unfold sp_kw sp_mkw
  rw [y.1, y.2.1, y.2.2.1, g.1]
  have : (I 13 s = nI t ∧ ¬ I 14 s ≤ 0) ↔ I 13 s = nI t := ⟨fun h => h.1, fun h => ⟨h, by
    rcases y.2.2.2.2.2.2.2.2.1 with ⟨e, -⟩ | ⟨-, hp, -⟩
    · rw [h] at e; exact absurd e (nI_m1' (by omega))
    · exact rl_pos_lt hp hc⟩⟩
  simp only [rl_clk _ y.2.2.2.2.2.2.2.1, this]
theorem rl_kb (H : rl_All K L I D R k c) (hs : s < 8) : sp_kb K t s = sp_mkb I t s := by
  obtain ⟨g1, g2, g3, g4, g5, g6, g7, g8, g9⟩ := H.2.2.2.2.2.2
  have hB : ∀ i j, i < 8 → j < 8 → (rl_bit (K 28 i) j = true ↔ ld_B I i j = true) := fun i j hi hj => by
    rw [g9 i j hi hj]
    unfold ld_B
    rcases g8 (8 * i + j) (by omega) with h | h <;> rw [h] <;> decide
  rw [Bool.eq_iff_iff]
  unfold sp_kb sp_bef sp_mkb od_a
  rw [decide_eq_true_iff, bt_nz, List.any_eq_true]
  constructor
  · rintro ⟨i, h1, h2⟩
    obtain ⟨hi, h3⟩ := (own_bit K t i).mp h2
    refine ⟨i, by simp [List.mem_range', hi], ?_⟩
    rw [Bool.and_eq_true, decide_eq_true_iff]
    exact ⟨(rl_odc H hi).mpr h3, (co_eq hB hs hi).mp (by rw [bt_get _ hi]; exact h1)⟩
  · rintro ⟨i, hi, h⟩
    have hi : i < 8 := by simp [List.mem_range'] at hi; omega
    rw [Bool.and_eq_true, decide_eq_true_iff] at h
    exact ⟨i, by rw [← bt_get _ hi]; exact (co_eq hB hs hi).mpr h.2, (own_bit K t i).mpr ⟨hi, (rl_odc H hi).mp h.1⟩⟩
theorem rl_kt (H : rl_All K L I D R k c) (hs : s < 8) (ht : t < 6) (hc : c < 2 ^ 31) : sp_kt K t s = sp_mkt I t s := by
  unfold sp_kt sp_mkt
  rw [rl_kw H hs ht hc, rl_kb H hs, H.2.2.2.2.2.2.1]
/-- only the order and the warnings have changed -/
theorem rl_ordg {K' I' : sh_II} (H : rl_All K L I D R k c) (hK : ∀ r b, r ≠ 28 → r ≠ 25 → K' r b = K r b) (hI : ∀ r b, r ≠ 22 → r ≠ 23 → r ≠ 25 → I' r b = I r b) (h25 : K' 25 0 = I' 25 0) (h22 : ∀ x, x < 64 → I' 22 x = 0 ∨ I' 22 x = 1) (hb : ∀ i j, i < 8 → j < 8 → (rl_bit (K' 28 i) j = true ↔ I' 22 (8 * i + j) = 1)) : rl_All K' L I' D R k c := by
  obtain ⟨H1, H2, H3, H4, H5, H6, H7⟩ := H
  have h12 : ∀ i, I' 12 i = I 12 i := fun i => hI 12 i (by decide) (by decide) (by decide)
  refine ⟨fun t ht => rl_t_same (by simp [rl_sT, hK, hI]) h12 (H1 t ht), fun z hz => rl_y_same (by simp [rl_sS, hK, hI]) (H2 z hz), fun z hz => ?_, fun z hz => ⟨cw_row_f (fun b => hK 18 b (by decide) (by decide)) (fun b => hK 19 b (by decide) (by decide)) (H4 z hz).1, cw_row_f (fun b => hI 18 b (by decide) (by decide) (by decide)) (fun b => hI 19 b (by decide) (by decide) (by decide)) (H4 z hz).2.1, (H4 z hz).2.2.1, rl_st_f (fun b => hK 18 b (by decide) (by decide)) (H4 z hz).2.2.2⟩, fun t z ht hz => ?_, fun z hz t ht => ?_, ?_⟩
  · unfold rl_cd; simp only [h12, hI 16 _ (by decide) (by decide) (by decide)]; exact H3 z hz
  · unfold rl_m; rw [hI 5 _ (by decide) (by decide) (by decide)]; exact H5 t z ht hz
  · unfold rl_o; simp only [h12, hI 16 _ (by decide) (by decide) (by decide), hI 13 _ (by decide) (by decide) (by decide)]; exact H6 z hz t ht
  · obtain ⟨g1, g2, g3, g4, g5, g6, g7, g8, g9⟩ := H7
    exact ⟨by rw [hK 24 0 (by decide) (by decide), hI 24 0 (by decide) (by decide) (by decide)]; exact g1, h25, g3, g4, g5, g6, by rw [hK 29 0 (by decide) (by decide), rl_cnt_same h12]; exact g7, h22, hb⟩
theorem rl_warn (H : rl_All K L I D R k c) : rl_All (sh_u2 K 25 0 ((K 25 0) + 1)) L (sh_u2 I 25 0 ((I 25 0) + 1)) D R k c := by
  obtain ⟨g1, g2, g3, g4, g5, g6, g7, g8, g9⟩ := H.2.2.2.2.2.2
  exact rl_ordg H (fun r b _ h => sh_u2_row h b) (fun r b _ _ h => sh_u2_row h b) (by simp [sh_u2, g2]) (by simp [sh_u2]; exact g8) (by simp [sh_u2]; exact g9)
theorem rl_order (H : rl_All K L I D R k c) (hs : s < 8) (ht : t < 6) (hc : c < 2 ^ 31) : rl_All (sp_ko K t s) L (sp_mko I t s) D R k c := by
  have hkw := rl_kw H hs ht hc
  have hkb := rl_kb (t := t) H hs
  unfold sp_ko sp_mko
  rw [hkw, hkb]
  by_cases hw : sp_mkw I t s = true
  · rw [if_pos hw, if_pos hw]
    have H1 : rl_All (if sp_mkb I t s = true then sh_u2 K 25 0 ((K 25 0) + 1) else K) L (if sp_mkb I t s = true then sh_u2 I 25 0 ((I 25 0) + 1) else I) D R k c := by
      split
      · exact rl_warn H
      · exact H
    have e12 : ∀ o, (if sp_mkb I t s = true then sh_u2 K 25 0 ((K 25 0) + 1) else K) 12 o = K 12 o := fun o => by split <;> simp [sh_u2]
    have e13 : ∀ o, (if sp_mkb I t s = true then sh_u2 K 25 0 ((K 25 0) + 1) else K) 13 o = K 13 o := fun o => by split <;> simp [sh_u2]
    have eo : ∀ j, (sp_own K t).toBitVec.getLsbD j = true ↔ j < 8 ∧ cw_cl ((if sp_mkb I t s = true then sh_u2 K 25 0 ((K 25 0) + 1) else K) 12 j) = 4 ∧ (if sp_mkb I t s = true then sh_u2 K 25 0 ((K 25 0) + 1) else K) 13 j = nI t := fun j => by rw [own_bit, e12, e13]
    revert eo H1
    generalize (if sp_mkb I t s = true then sh_u2 K 25 0 ((K 25 0) + 1) else K) = K1
    generalize (if sp_mkb I t s = true then sh_u2 I 25 0 ((I 25 0) + 1) else I) = I1
    generalize sp_own K t = w
    intro H1 eo
    obtain ⟨g1, g2, g3, g4, g5, g6, g7, g8, g9⟩ := H1.2.2.2.2.2.2
    obtain ⟨p1, p2⟩ := put_at w s (List.range' 0 8) K1 (by decide)
    obtain ⟨m1, m2⟩ := mput_at t s (List.range' 0 8) I1
    unfold sp_put sp_mput
    have mem : ∀ i, i ∈ List.range' 0 8 ↔ i < 8 := fun i => by simp [List.mem_range']
    refine rl_ordg H1 (fun r b h _ => p1 r b h) (fun r b h _ _ => m1 r b h) ((p1 25 0 (by decide)).trans (g2.trans (m1 25 0 (by decide)).symm)) (fun x hx => ?_) (fun i j hi hj => ?_)
    · rw [m2]
      split
      · exact .inr rfl
      · exact g8 x hx
    · rw [p2, m2]
      have bo : rl_bit w i = true ↔ od_c I1 t i = true := by
        rw [bt_get _ hi, eo, rl_odc H1 hi]
        exact ⟨fun h => h.2, fun h => ⟨hi, h⟩⟩
      by_cases h : rl_bit w i = true
      · rw [if_pos ⟨(mem i).mpr hi, h⟩, bt_or _ _ hj, bt_get ((1 : Int32) <<< _) hj, bt_one hs]
        by_cases e : j = s
        · subst e
          rw [if_pos ⟨i, (mem i).mpr hi, bo.mp h, rfl⟩]
          simp
        · rw [if_neg (fun ⟨i', a1, a2, a3⟩ => by
            have := (mem i').mp a1
            exact e (by omega))]
          simp [e]
          exact g9 i j hi hj
      · rw [if_neg (fun q => h q.2), if_neg (fun ⟨i', a1, a2, a3⟩ => by
          have := (mem i').mp a1
          have : i' = i := by omega
          subst this
          exact h (bo.mpr a2))]
        exact g9 i j hi hj
  · rw [if_neg hw, if_neg hw]
    exact H
end RLQ
