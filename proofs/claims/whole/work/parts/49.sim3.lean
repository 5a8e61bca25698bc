section SMD
variable {A : Nat → Nat} {mq : Nat} {B : Nat → Nat} {K K' : sh_II} {L L' : sh_DD} {I I' : sh_II} {D D' : sh_DD} {R R' : Nat → List Nat} {k c : Nat} {s t : Nat} {m : Int32} {y : UInt64}
/-- what the class does at the gate s, the order and the wish being checked: X is its state -/
def ac_C (A : Nat → Nat) (K X : sh_II) (L : sh_DD) (t s : Nat) (m : Int32) (y : UInt64) (l : List Nat) : Prop :=
  ((sp_mq X t s m l = false ∧ sp_can X t s m = true) → sh_cM A md_Hall_acquire [.ref (A 0), .int (nI t), .int (nI s), .int m, .double y] K L (.inl (some (.int 1))) (sh_u2 (sh_u2 (sp_tk X t s m 1) 4 t 1) 27 t 0) L) ∧
  (¬ (sp_mq X t s m l = false ∧ sp_can X t s m = true) → ((Op.cmpValue (FP.dcmp y FP.dconst0) .l) = 0 → sh_cM A md_Hall_acquire [.ref (A 0), .int (nI t), .int (nI s), .int m, .double y] K L (.inl (some (.int 2))) (sh_u2 (sh_u2 X 4 t 2) 27 t 0) L) ∧
    (¬ (Op.cmpValue (FP.dcmp y FP.dconst0) .l) = 0 → (Op.cmpValue (FP.dcmp y FP.dconst0) .l) ≤ 0 → sh_cM A md_Hall_acquire [.ref (A 0), .int (nI t), .int (nI s), .int m, .double y] K L (.inl (some (.int 0))) (sp_enq (sh_u2 (sh_u2 X 9 t 1) 10 t 1) s t m l) (sh_u2 L 8 t (L 11 0))) ∧
    (¬ (Op.cmpValue (FP.dcmp y FP.dconst0) .l) = 0 → ¬ (Op.cmpValue (FP.dcmp y FP.dconst0) .l) ≤ 0 → vf_n64 (FP.dadd (L 11 0) y) → sh_cM A md_Hall_acquire [.ref (A 0), .int (nI t), .int (nI s), .int m, .double y] K L (.inl (some (.int 0))) (sh_u2 (sp_enq (sh_u2 (sh_u2 X 9 t 1) 10 t 1) s t m l) 26 t 1) (sh_u2 (sh_u2 L 8 t (L 11 0)) 7 t (FP.dadd (L 11 0) y))))
theorem sp_enq_4 {l : List Nat} : sp_enq K s t m l 4 t = 0 := by unfold sp_enq; rw [sh_u2_eq]
theorem sp_enq_4' {l : List Nat} : sh_u2 (sp_enq K s t m l) 26 t 1 4 t = 0 := by rw [sh_u2_row (by decide)]; exact sp_enq_4
theorem ac_Lock (ht : t < 6) (hs : s < 8) (hm : m = 0 ∨ m = 1) (hl1 : ¬ (Op.cmpValue (FP.dcmp y (FP.i2d (-1))) .l) < 0) (hl2 : (Op.cmpValue (FP.dcmp y (FP.i2d 1000)) .g) ≤ 0) (hp : K 5 t = -1) (ho : cw_okr K) {l : List Nat} (hr : cw_row K s l) (hlen : l.length < 6) (hk : cw_cl (K 12 s) = 4) (hf : K 2 t = 0) (hkt : ¬ sp_kt K t s = true) : ac_C A K (sp_ko K t s) L t s m y l := by
  have eK : sh_u2 K 2 t 0 = K := by rw [← hf]; exact sh_u2_self K 2 t
  have bz : ∀ b : Bool, ¬ b = true → sp_b b = 0 := fun b h => sp_b0 (by simpa using h)
  have bn : ∀ b : Bool, b = true → ¬ sp_b b = 0 := fun b h => by rw [sp_b1 h]; decide
  refine ⟨fun ⟨h1, h2⟩ => ?_, fun h => ?_⟩
  · have q := ct_Hall_acquire_Lock_5 (A := A) (K := K) (L := L) (l := l) ht hs hm hl1 hl2 hp ho hr hlen hk (sp_nar (.inl hf)) hf (by rw [eK]; exact hkt) (by rw [eK]; exact sp_b0 h1) (by rw [eK]; exact bn _ h2)
    rw [eK] at q; exact q
  · by_cases h1 : sp_mq (sp_ko K t s) t s m l = false
    · have h2 : ¬ sp_can (sp_ko K t s) t s m = true := fun h2 => h ⟨h1, h2⟩
      refine ⟨fun g => ?_, fun g g' => ?_, fun g g' v => ?_⟩
      · have q := ct_Hall_acquire_Lock_2 (A := A) (K := K) (L := L) (l := l) ht hs hm hl1 hl2 hp ho hr hlen hk (sp_nar (.inl hf)) hf (by rw [eK]; exact hkt) (by rw [eK]; exact sp_b0 h1) (by rw [eK]; exact bz _ h2) g
        rw [eK] at q; exact q
      · have q := ct_Hall_acquire_Lock_3 (A := A) (K := K) (L := L) (l := l) ht hs hm hl1 hl2 hp ho hr hlen hk (sp_nar (.inl hf)) hf (by rw [eK]; exact hkt) (by rw [eK]; exact sp_b0 h1) (by rw [eK]; exact bz _ h2) g g'
        rw [eK, sp_enq_4] at q; exact q
      · have q := ct_Hall_acquire_Lock_4 (A := A) (K := K) (L := L) (l := l) ht hs hm hl1 hl2 hp ho hr hlen hk (sp_nar (.inl hf)) hf (by rw [eK]; exact hkt) (by rw [eK]; exact sp_b0 h1) (by rw [eK]; exact bz _ h2) g g' v
        rw [eK, sp_enq_4'] at q; exact q
    · have h1' : sp_mq (sp_ko K t s) t s m l = true := by simpa using h1
      refine ⟨fun g => ?_, fun g g' => ?_, fun g g' v => ?_⟩
      · have q := ct_Hall_acquire_Lock_6 (A := A) (K := K) (L := L) (l := l) ht hs hm hl1 hl2 hp ho hr hlen hk (sp_nar (.inl hf)) hf (by rw [eK]; exact hkt) (by rw [eK]; exact bn _ h1') g
        rw [eK] at q; exact q
      · have q := ct_Hall_acquire_Lock_7 (A := A) (K := K) (L := L) (l := l) ht hs hm hl1 hl2 hp ho hr hlen hk (sp_nar (.inl hf)) hf (by rw [eK]; exact hkt) (by rw [eK]; exact bn _ h1') g g'
        rw [eK, sp_enq_4] at q; exact q
      · have q := ct_Hall_acquire_Lock_8 (A := A) (K := K) (L := L) (l := l) ht hs hm hl1 hl2 hp ho hr hlen hk (sp_nar (.inl hf)) hf (by rw [eK]; exact hkt) (by rw [eK]; exact bn _ h1') g g' v
        rw [eK, sp_enq_4'] at q; exact q
theorem ac_Semaphore (ht : t < 6) (hs : s < 8) (hm : m = 0 ∨ m = 1) (hl1 : ¬ (Op.cmpValue (FP.dcmp y (FP.i2d (-1))) .l) < 0) (hl2 : (Op.cmpValue (FP.dcmp y (FP.i2d 1000)) .g) ≤ 0) (hp : K 5 t = -1) (ho : cw_okr K) {l : List Nat} (hr : cw_row K s l) (hlen : l.length < 6) (hk : cw_cl (K 12 s) = 5) (hf : K 2 t = 0) : ac_C A K K L t s m y l := by
  have eK : sh_u2 K 2 t 0 = K := by rw [← hf]; exact sh_u2_self K 2 t
  have bz : ∀ b : Bool, ¬ b = true → sp_b b = 0 := fun b h => sp_b0 (by simpa using h)
  have bn : ∀ b : Bool, b = true → ¬ sp_b b = 0 := fun b h => by rw [sp_b1 h]; decide
  refine ⟨fun ⟨h1, h2⟩ => ?_, fun h => ?_⟩
  · have q := ct_Hall_acquire_Semaphore_4 (A := A) (K := K) (L := L) (l := l) ht hs hm hl1 hl2 hp ho hr hlen hk (sp_nar (.inl hf)) hf (by rw [eK]; exact sp_b0 h1) (by rw [eK]; exact bn _ h2)
    rw [eK] at q; exact q
  · by_cases h1 : sp_mq K t s m l = false
    · have h2 : ¬ sp_can K t s m = true := fun h2 => h ⟨h1, h2⟩
      refine ⟨fun g => ?_, fun g g' => ?_, fun g g' v => ?_⟩
      · have q := ct_Hall_acquire_Semaphore_1 (A := A) (K := K) (L := L) (l := l) ht hs hm hl1 hl2 hp ho hr hlen hk (sp_nar (.inl hf)) hf (by rw [eK]; exact sp_b0 h1) (by rw [eK]; exact bz _ h2) g
        rw [eK] at q; exact q
      · have q := ct_Hall_acquire_Semaphore_2 (A := A) (K := K) (L := L) (l := l) ht hs hm hl1 hl2 hp ho hr hlen hk (sp_nar (.inl hf)) hf (by rw [eK]; exact sp_b0 h1) (by rw [eK]; exact bz _ h2) g g'
        rw [eK, sp_enq_4] at q; exact q
      · have q := ct_Hall_acquire_Semaphore_3 (A := A) (K := K) (L := L) (l := l) ht hs hm hl1 hl2 hp ho hr hlen hk (sp_nar (.inl hf)) hf (by rw [eK]; exact sp_b0 h1) (by rw [eK]; exact bz _ h2) g g' v
        rw [eK, sp_enq_4'] at q; exact q
    · have h1' : sp_mq K t s m l = true := by simpa using h1
      refine ⟨fun g => ?_, fun g g' => ?_, fun g g' v => ?_⟩
      · have q := ct_Hall_acquire_Semaphore_5 (A := A) (K := K) (L := L) (l := l) ht hs hm hl1 hl2 hp ho hr hlen hk (sp_nar (.inl hf)) hf (by rw [eK]; exact bn _ h1') g
        rw [eK] at q; exact q
      · have q := ct_Hall_acquire_Semaphore_6 (A := A) (K := K) (L := L) (l := l) ht hs hm hl1 hl2 hp ho hr hlen hk (sp_nar (.inl hf)) hf (by rw [eK]; exact bn _ h1') g g'
        rw [eK, sp_enq_4] at q; exact q
      · have q := ct_Hall_acquire_Semaphore_7 (A := A) (K := K) (L := L) (l := l) ht hs hm hl1 hl2 hp ho hr hlen hk (sp_nar (.inl hf)) hf (by rw [eK]; exact bn _ h1') g g' v
        rw [eK, sp_enq_4'] at q; exact q
theorem ac_Latch (ht : t < 6) (hs : s < 8) (hm : m = 0 ∨ m = 1) (hl1 : ¬ (Op.cmpValue (FP.dcmp y (FP.i2d (-1))) .l) < 0) (hl2 : (Op.cmpValue (FP.dcmp y (FP.i2d 1000)) .g) ≤ 0) (hp : K 5 t = -1) (ho : cw_okr K) {l : List Nat} (hr : cw_row K s l) (hlen : l.length < 6) (hk : cw_cl (K 12 s) = 6) (hf : K 2 t = 0) : ac_C A K K L t s m y l := by
  have eK : sh_u2 K 2 t 0 = K := by rw [← hf]; exact sh_u2_self K 2 t
  have bz : ∀ b : Bool, ¬ b = true → sp_b b = 0 := fun b h => sp_b0 (by simpa using h)
  have bn : ∀ b : Bool, b = true → ¬ sp_b b = 0 := fun b h => by rw [sp_b1 h]; decide
  refine ⟨fun ⟨h1, h2⟩ => ?_, fun h => ?_⟩
  · have q := ct_Hall_acquire_Latch_4 (A := A) (K := K) (L := L) (l := l) ht hs hm hl1 hl2 hp ho hr hlen hk (sp_nar (.inl hf)) hf (by rw [eK]; exact sp_b0 h1) (by rw [eK]; exact bn _ h2)
    rw [eK] at q; exact q
  · by_cases h1 : sp_mq K t s m l = false
    · have h2 : ¬ sp_can K t s m = true := fun h2 => h ⟨h1, h2⟩
      refine ⟨fun g => ?_, fun g g' => ?_, fun g g' v => ?_⟩
      · have q := ct_Hall_acquire_Latch_1 (A := A) (K := K) (L := L) (l := l) ht hs hm hl1 hl2 hp ho hr hlen hk (sp_nar (.inl hf)) hf (by rw [eK]; exact sp_b0 h1) (by rw [eK]; exact bz _ h2) g
        rw [eK] at q; exact q
      · have q := ct_Hall_acquire_Latch_2 (A := A) (K := K) (L := L) (l := l) ht hs hm hl1 hl2 hp ho hr hlen hk (sp_nar (.inl hf)) hf (by rw [eK]; exact sp_b0 h1) (by rw [eK]; exact bz _ h2) g g'
        rw [eK, sp_enq_4] at q; exact q
      · have q := ct_Hall_acquire_Latch_3 (A := A) (K := K) (L := L) (l := l) ht hs hm hl1 hl2 hp ho hr hlen hk (sp_nar (.inl hf)) hf (by rw [eK]; exact sp_b0 h1) (by rw [eK]; exact bz _ h2) g g' v
        rw [eK, sp_enq_4'] at q; exact q
    · have h1' : sp_mq K t s m l = true := by simpa using h1
      refine ⟨fun g => ?_, fun g g' => ?_, fun g g' v => ?_⟩
      · have q := ct_Hall_acquire_Latch_5 (A := A) (K := K) (L := L) (l := l) ht hs hm hl1 hl2 hp ho hr hlen hk (sp_nar (.inl hf)) hf (by rw [eK]; exact bn _ h1') g
        rw [eK] at q; exact q
      · have q := ct_Hall_acquire_Latch_6 (A := A) (K := K) (L := L) (l := l) ht hs hm hl1 hl2 hp ho hr hlen hk (sp_nar (.inl hf)) hf (by rw [eK]; exact bn _ h1') g g'
        rw [eK, sp_enq_4] at q; exact q
      · have q := ct_Hall_acquire_Latch_7 (A := A) (K := K) (L := L) (l := l) ht hs hm hl1 hl2 hp ho hr hlen hk (sp_nar (.inl hf)) hf (by rw [eK]; exact bn _ h1') g g' v
        rw [eK, sp_enq_4'] at q; exact q
theorem ac_Shared (ht : t < 6) (hs : s < 8) (hm : m = 0 ∨ m = 1) (hl1 : ¬ (Op.cmpValue (FP.dcmp y (FP.i2d (-1))) .l) < 0) (hl2 : (Op.cmpValue (FP.dcmp y (FP.i2d 1000)) .g) ≤ 0) (hp : K 5 t = -1) (ho : cw_okr K) {l : List Nat} (hr : cw_row K s l) (hlen : l.length < 6) (hk : cw_cl (K 12 s) = 7) (hf : K 2 t = 0) (hcw : ¬ sp_cw K t s m = true) : ac_C A K K L t s m y l := by
  have eK : sh_u2 K 2 t 0 = K := by rw [← hf]; exact sh_u2_self K 2 t
  have bz : ∀ b : Bool, ¬ b = true → sp_b b = 0 := fun b h => sp_b0 (by simpa using h)
  have bn : ∀ b : Bool, b = true → ¬ sp_b b = 0 := fun b h => by rw [sp_b1 h]; decide
  refine ⟨fun ⟨h1, h2⟩ => ?_, fun h => ?_⟩
  · have q := ct_Hall_acquire_Shared_5 (A := A) (K := K) (L := L) (l := l) ht hs hm hl1 hl2 hp ho hr hlen hk (sp_nar (.inl hf)) hf (by rw [eK]; exact hcw) (by rw [eK]; exact sp_b0 h1) (by rw [eK]; exact bn _ h2)
    rw [eK] at q; exact q
  · by_cases h1 : sp_mq K t s m l = false
    · have h2 : ¬ sp_can K t s m = true := fun h2 => h ⟨h1, h2⟩
      refine ⟨fun g => ?_, fun g g' => ?_, fun g g' v => ?_⟩
      · have q := ct_Hall_acquire_Shared_2 (A := A) (K := K) (L := L) (l := l) ht hs hm hl1 hl2 hp ho hr hlen hk (sp_nar (.inl hf)) hf (by rw [eK]; exact hcw) (by rw [eK]; exact sp_b0 h1) (by rw [eK]; exact bz _ h2) g
        rw [eK] at q; exact q
      · have q := ct_Hall_acquire_Shared_3 (A := A) (K := K) (L := L) (l := l) ht hs hm hl1 hl2 hp ho hr hlen hk (sp_nar (.inl hf)) hf (by rw [eK]; exact hcw) (by rw [eK]; exact sp_b0 h1) (by rw [eK]; exact bz _ h2) g g'
        rw [eK, sp_enq_4] at q; exact q
      · have q := ct_Hall_acquire_Shared_4 (A := A) (K := K) (L := L) (l := l) ht hs hm hl1 hl2 hp ho hr hlen hk (sp_nar (.inl hf)) hf (by rw [eK]; exact hcw) (by rw [eK]; exact sp_b0 h1) (by rw [eK]; exact bz _ h2) g g' v
        rw [eK, sp_enq_4'] at q; exact q
    · have h1' : sp_mq K t s m l = true := by simpa using h1
      refine ⟨fun g => ?_, fun g g' => ?_, fun g g' v => ?_⟩
      · have q := ct_Hall_acquire_Shared_6 (A := A) (K := K) (L := L) (l := l) ht hs hm hl1 hl2 hp ho hr hlen hk (sp_nar (.inl hf)) hf (by rw [eK]; exact hcw) (by rw [eK]; exact bn _ h1') g
        rw [eK] at q; exact q
      · have q := ct_Hall_acquire_Shared_7 (A := A) (K := K) (L := L) (l := l) ht hs hm hl1 hl2 hp ho hr hlen hk (sp_nar (.inl hf)) hf (by rw [eK]; exact hcw) (by rw [eK]; exact bn _ h1') g g'
        rw [eK, sp_enq_4] at q; exact q
      · have q := ct_Hall_acquire_Shared_8 (A := A) (K := K) (L := L) (l := l) ht hs hm hl1 hl2 hp ho hr hlen hk (sp_nar (.inl hf)) hf (by rw [eK]; exact hcw) (by rw [eK]; exact bn _ h1') g g' v
        rw [eK, sp_enq_4'] at q; exact q
/-- what the reference does, once ordered has answered: X is its state -/
def ac_M (mq : Nat) (B : Nat → Nat) (I X : sh_II) (D : sh_DD) (t s : Nat) (m : Int32) (y : UInt64) (l : List Nat) : Prop :=
  ((sp_mq X t s m l = false ∧ sp_can X t s m = true) → sh_mM mq B md_Mod_acquire [.ref mq, .int (nI t), .int (nI s), .int m, .double y] I D (some (.int 1)) (sh_u2 (sp_mtk X t s m) 4 t 1) D) ∧
  (¬ (sp_mq X t s m l = false ∧ sp_can X t s m = true) → ((Op.cmpValue (FP.dcmp y FP.dconst0) .l) = 0 → sh_mM mq B md_Mod_acquire [.ref mq, .int (nI t), .int (nI s), .int m, .double y] I D (some (.int 2)) (sh_u2 X 4 t 2) D) ∧
    (¬ (Op.cmpValue (FP.dcmp y FP.dconst0) .l) = 0 → (Op.cmpValue (FP.dcmp y FP.dconst0) .l) ≤ 0 → sh_mM mq B md_Mod_acquire [.ref mq, .int (nI t), .int (nI s), .int m, .double y] I D (some (.int 0)) (sh_u2 (sp_ment (sh_u2 (sh_u2 X 6 t m) 9 t 0) s t l) 4 t 0) (sh_u2 (sh_u2 D 7 t 13830554455654793216) 8 t (D 11 0))) ∧
    (¬ (Op.cmpValue (FP.dcmp y FP.dconst0) .l) = 0 → ¬ (Op.cmpValue (FP.dcmp y FP.dconst0) .l) ≤ 0 → vf_n64 (FP.dadd (D 11 0) y) → sh_mM mq B md_Mod_acquire [.ref mq, .int (nI t), .int (nI s), .int m, .double y] I D (some (.int 0)) (sh_u2 (sp_ment (sh_u2 (sh_u2 X 6 t m) 9 t 0) s t l) 4 t 0) (sh_u2 (sh_u2 D 7 t (FP.dadd (D 11 0) y)) 8 t (D 11 0))))
theorem sh_d11 {x : UInt64} : sh_u2 D 7 t x 11 0 = D 11 0 := sh_u2_row (by decide) 0
theorem am_0 (ht : t < 6) (hs : s < 8) (hm : m = 0 ∨ m = 1) (hl1 : ¬ (Op.cmpValue (FP.dcmp y 13830554455654793216) .l) < 0) (hl2 : (Op.cmpValue (FP.dcmp y 4652007308841189376) .g) ≤ 0) (hk : I 12 s = 0) (hb0 : I 1 t = 0) (hf : I 2 t = 0) {v : Int32} {X : sh_II} (ho : sh_mM mq B md_Mod_ordered [.ref mq, .int (nI t), .int (nI s)] (sh_u2 I 0 0 0) D (some (.int v)) X D) (hsm : sp_sm (sh_u2 I 0 0 0) X) (hv : ¬ v = 0) {l : List Nat} (hr : cw_row X s l) (hlen : l.length < 6) : ac_M mq B I X D t s m y l := by
  have bz : ∀ b : Bool, ¬ b = true → sp_b b = 0 := fun b h => sp_b0 (by simpa using h)
  have bn : ∀ b : Bool, b = true → ¬ sp_b b = 0 := fun b h => by rw [sp_b1 h]; decide
  have hr2 : cw_row (sh_u2 (sh_u2 X 6 t m) 9 t 0) s l := cw_row_up (by decide) (cw_row_up (by decide) hr)
  refine ⟨fun ⟨h1, h2⟩ => ?_, fun h => ?_⟩
  · exact mx_Mod_acquire_r0_5 (mq := mq) (A := B) (I := I) (D := D) (l := l) ht hs hm hl1 hl2 hk hb0 hf ho hsm hv hr (sp_b0 h1) (bn _ h2)
  · by_cases h1 : sp_mq X t s m l = false
    · have h2 : ¬ sp_can X t s m = true := fun h2 => h ⟨h1, h2⟩
      refine ⟨fun g => ?_, fun g g' => ?_, fun g g' w => ?_⟩
      · exact mx_Mod_acquire_r0_2 (mq := mq) (A := B) (I := I) (D := D) (l := l) ht hs hm hl1 hl2 hk hb0 hf ho hsm hv hr (sp_b0 h1) (bz _ h2) g
      · have q := mx_Mod_acquire_r0_3 (mq := mq) (A := B) (I := I) (D := D) (l := l) ht hs hm hl1 hl2 hk hb0 hf ho hsm hv hr (sp_b0 h1) (bz _ h2) g g' hr2 hlen
        rw [sh_d11] at q; exact q
      · have q := mx_Mod_acquire_r0_4 (mq := mq) (A := B) (I := I) (D := D) (l := l) ht hs hm hl1 hl2 hk hb0 hf ho hsm hv hr (sp_b0 h1) (bz _ h2) g g' w hr2 hlen
        rw [sh_d11] at q; exact q
    · have h1' : sp_mq X t s m l = true := by simpa using h1
      refine ⟨fun g => ?_, fun g g' => ?_, fun g g' w => ?_⟩
      · exact mx_Mod_acquire_r0_6 (mq := mq) (A := B) (I := I) (D := D) (l := l) ht hs hm hl1 hl2 hk hb0 hf ho hsm hv hr (bn _ h1') g
      · have q := mx_Mod_acquire_r0_7 (mq := mq) (A := B) (I := I) (D := D) (l := l) ht hs hm hl1 hl2 hk hb0 hf ho hsm hv hr (bn _ h1') g g' hr2 hlen
        rw [sh_d11] at q; exact q
      · have q := mx_Mod_acquire_r0_8 (mq := mq) (A := B) (I := I) (D := D) (l := l) ht hs hm hl1 hl2 hk hb0 hf ho hsm hv hr (bn _ h1') g g' w hr2 hlen
        rw [sh_d11] at q; exact q
theorem am_1 (ht : t < 6) (hs : s < 8) (hm : m = 0 ∨ m = 1) (hl1 : ¬ (Op.cmpValue (FP.dcmp y 13830554455654793216) .l) < 0) (hl2 : (Op.cmpValue (FP.dcmp y 4652007308841189376) .g) ≤ 0) (hk : I 12 s = 1) (hb0 : I 1 t = 0) (hf : I 2 t = 0) {v : Int32} {X : sh_II} (ho : sh_mM mq B md_Mod_ordered [.ref mq, .int (nI t), .int (nI s)] (sh_u2 I 0 0 0) D (some (.int v)) X D) (hsm : sp_sm (sh_u2 I 0 0 0) X) (hv : ¬ v = 0) {l : List Nat} (hr : cw_row X s l) (hlen : l.length < 6) : ac_M mq B I X D t s m y l := by
  have bz : ∀ b : Bool, ¬ b = true → sp_b b = 0 := fun b h => sp_b0 (by simpa using h)
  have bn : ∀ b : Bool, b = true → ¬ sp_b b = 0 := fun b h => by rw [sp_b1 h]; decide
  have hr2 : cw_row (sh_u2 (sh_u2 X 6 t m) 9 t 0) s l := cw_row_up (by decide) (cw_row_up (by decide) hr)
  refine ⟨fun ⟨h1, h2⟩ => ?_, fun h => ?_⟩
  · exact mx_Mod_acquire_r1_5 (mq := mq) (A := B) (I := I) (D := D) (l := l) ht hs hm hl1 hl2 hk hb0 hf ho hsm hv hr (sp_b0 h1) (bn _ h2)
  · by_cases h1 : sp_mq X t s m l = false
    · have h2 : ¬ sp_can X t s m = true := fun h2 => h ⟨h1, h2⟩
      refine ⟨fun g => ?_, fun g g' => ?_, fun g g' w => ?_⟩
      · exact mx_Mod_acquire_r1_2 (mq := mq) (A := B) (I := I) (D := D) (l := l) ht hs hm hl1 hl2 hk hb0 hf ho hsm hv hr (sp_b0 h1) (bz _ h2) g
      · have q := mx_Mod_acquire_r1_3 (mq := mq) (A := B) (I := I) (D := D) (l := l) ht hs hm hl1 hl2 hk hb0 hf ho hsm hv hr (sp_b0 h1) (bz _ h2) g g' hr2 hlen
        rw [sh_d11] at q; exact q
      · have q := mx_Mod_acquire_r1_4 (mq := mq) (A := B) (I := I) (D := D) (l := l) ht hs hm hl1 hl2 hk hb0 hf ho hsm hv hr (sp_b0 h1) (bz _ h2) g g' w hr2 hlen
        rw [sh_d11] at q; exact q
    · have h1' : sp_mq X t s m l = true := by simpa using h1
      refine ⟨fun g => ?_, fun g g' => ?_, fun g g' w => ?_⟩
      · exact mx_Mod_acquire_r1_6 (mq := mq) (A := B) (I := I) (D := D) (l := l) ht hs hm hl1 hl2 hk hb0 hf ho hsm hv hr (bn _ h1') g
      · have q := mx_Mod_acquire_r1_7 (mq := mq) (A := B) (I := I) (D := D) (l := l) ht hs hm hl1 hl2 hk hb0 hf ho hsm hv hr (bn _ h1') g g' hr2 hlen
        rw [sh_d11] at q; exact q
      · have q := mx_Mod_acquire_r1_8 (mq := mq) (A := B) (I := I) (D := D) (l := l) ht hs hm hl1 hl2 hk hb0 hf ho hsm hv hr (bn _ h1') g g' w hr2 hlen
        rw [sh_d11] at q; exact q
theorem am_2 (ht : t < 6) (hs : s < 8) (hm : m = 0 ∨ m = 1) (hl1 : ¬ (Op.cmpValue (FP.dcmp y 13830554455654793216) .l) < 0) (hl2 : (Op.cmpValue (FP.dcmp y 4652007308841189376) .g) ≤ 0) (hk : I 12 s = 2) (hb0 : I 1 t = 0) (hf : I 2 t = 0) {v : Int32} {X : sh_II} (ho : sh_mM mq B md_Mod_ordered [.ref mq, .int (nI t), .int (nI s)] (sh_u2 I 0 0 0) D (some (.int v)) X D) (hsm : sp_sm (sh_u2 I 0 0 0) X) (hv : ¬ v = 0) {l : List Nat} (hr : cw_row X s l) (hlen : l.length < 6) : ac_M mq B I X D t s m y l := by
  have bz : ∀ b : Bool, ¬ b = true → sp_b b = 0 := fun b h => sp_b0 (by simpa using h)
  have bn : ∀ b : Bool, b = true → ¬ sp_b b = 0 := fun b h => by rw [sp_b1 h]; decide
  have hr2 : cw_row (sh_u2 (sh_u2 X 6 t m) 9 t 0) s l := cw_row_up (by decide) (cw_row_up (by decide) hr)
  refine ⟨fun ⟨h1, h2⟩ => ?_, fun h => ?_⟩
  · exact mx_Mod_acquire_r2_5 (mq := mq) (A := B) (I := I) (D := D) (l := l) ht hs hm hl1 hl2 hk hb0 hf ho hsm hv hr (sp_b0 h1) (bn _ h2)
  · by_cases h1 : sp_mq X t s m l = false
    · have h2 : ¬ sp_can X t s m = true := fun h2 => h ⟨h1, h2⟩
      refine ⟨fun g => ?_, fun g g' => ?_, fun g g' w => ?_⟩
      · exact mx_Mod_acquire_r2_2 (mq := mq) (A := B) (I := I) (D := D) (l := l) ht hs hm hl1 hl2 hk hb0 hf ho hsm hv hr (sp_b0 h1) (bz _ h2) g
      · have q := mx_Mod_acquire_r2_3 (mq := mq) (A := B) (I := I) (D := D) (l := l) ht hs hm hl1 hl2 hk hb0 hf ho hsm hv hr (sp_b0 h1) (bz _ h2) g g' hr2 hlen
        rw [sh_d11] at q; exact q
      · have q := mx_Mod_acquire_r2_4 (mq := mq) (A := B) (I := I) (D := D) (l := l) ht hs hm hl1 hl2 hk hb0 hf ho hsm hv hr (sp_b0 h1) (bz _ h2) g g' w hr2 hlen
        rw [sh_d11] at q; exact q
    · have h1' : sp_mq X t s m l = true := by simpa using h1
      refine ⟨fun g => ?_, fun g g' => ?_, fun g g' w => ?_⟩
      · exact mx_Mod_acquire_r2_6 (mq := mq) (A := B) (I := I) (D := D) (l := l) ht hs hm hl1 hl2 hk hb0 hf ho hsm hv hr (bn _ h1') g
      · have q := mx_Mod_acquire_r2_7 (mq := mq) (A := B) (I := I) (D := D) (l := l) ht hs hm hl1 hl2 hk hb0 hf ho hsm hv hr (bn _ h1') g g' hr2 hlen
        rw [sh_d11] at q; exact q
      · have q := mx_Mod_acquire_r2_8 (mq := mq) (A := B) (I := I) (D := D) (l := l) ht hs hm hl1 hl2 hk hb0 hf ho hsm hv hr (bn _ h1') g g' w hr2 hlen
        rw [sh_d11] at q; exact q
theorem am_3 (ht : t < 6) (hs : s < 8) (hm : m = 0 ∨ m = 1) (hl1 : ¬ (Op.cmpValue (FP.dcmp y 13830554455654793216) .l) < 0) (hl2 : (Op.cmpValue (FP.dcmp y 4652007308841189376) .g) ≤ 0) (hk : I 12 s = 3) (hb0 : I 1 t = 0) (hf : I 2 t = 0) {v : Int32} {X : sh_II} (ho : sh_mM mq B md_Mod_ordered [.ref mq, .int (nI t), .int (nI s)] (sh_u2 I 0 0 0) D (some (.int v)) X D) (hsm : sp_sm (sh_u2 I 0 0 0) X) (hv : ¬ v = 0) {l : List Nat} (hr : cw_row X s l) (hlen : l.length < 6) : ac_M mq B I X D t s m y l := by
  have bz : ∀ b : Bool, ¬ b = true → sp_b b = 0 := fun b h => sp_b0 (by simpa using h)
  have bn : ∀ b : Bool, b = true → ¬ sp_b b = 0 := fun b h => by rw [sp_b1 h]; decide
  have hr2 : cw_row (sh_u2 (sh_u2 X 6 t m) 9 t 0) s l := cw_row_up (by decide) (cw_row_up (by decide) hr)
  refine ⟨fun ⟨h1, h2⟩ => ?_, fun h => ?_⟩
  · exact mx_Mod_acquire_r3_5 (mq := mq) (A := B) (I := I) (D := D) (l := l) ht hs hm hl1 hl2 hk hb0 hf ho hsm hv hr (sp_b0 h1) (bn _ h2)
  · by_cases h1 : sp_mq X t s m l = false
    · have h2 : ¬ sp_can X t s m = true := fun h2 => h ⟨h1, h2⟩
      refine ⟨fun g => ?_, fun g g' => ?_, fun g g' w => ?_⟩
      · exact mx_Mod_acquire_r3_2 (mq := mq) (A := B) (I := I) (D := D) (l := l) ht hs hm hl1 hl2 hk hb0 hf ho hsm hv hr (sp_b0 h1) (bz _ h2) g
      · have q := mx_Mod_acquire_r3_3 (mq := mq) (A := B) (I := I) (D := D) (l := l) ht hs hm hl1 hl2 hk hb0 hf ho hsm hv hr (sp_b0 h1) (bz _ h2) g g' hr2 hlen
        rw [sh_d11] at q; exact q
      · have q := mx_Mod_acquire_r3_4 (mq := mq) (A := B) (I := I) (D := D) (l := l) ht hs hm hl1 hl2 hk hb0 hf ho hsm hv hr (sp_b0 h1) (bz _ h2) g g' w hr2 hlen
        rw [sh_d11] at q; exact q
    · have h1' : sp_mq X t s m l = true := by simpa using h1
      refine ⟨fun g => ?_, fun g g' => ?_, fun g g' w => ?_⟩
      · exact mx_Mod_acquire_r3_6 (mq := mq) (A := B) (I := I) (D := D) (l := l) ht hs hm hl1 hl2 hk hb0 hf ho hsm hv hr (bn _ h1') g
      · have q := mx_Mod_acquire_r3_7 (mq := mq) (A := B) (I := I) (D := D) (l := l) ht hs hm hl1 hl2 hk hb0 hf ho hsm hv hr (bn _ h1') g g' hr2 hlen
        rw [sh_d11] at q; exact q
      · have q := mx_Mod_acquire_r3_8 (mq := mq) (A := B) (I := I) (D := D) (l := l) ht hs hm hl1 hl2 hk hb0 hf ho hsm hv hr (bn _ h1') g g' w hr2 hlen
        rw [sh_d11] at q; exact q
theorem am_4 (ht : t < 6) (hs : s < 8) (hm : m = 0 ∨ m = 1) (hl1 : ¬ (Op.cmpValue (FP.dcmp y 13830554455654793216) .l) < 0) (hl2 : (Op.cmpValue (FP.dcmp y 4652007308841189376) .g) ≤ 0) (hk : I 12 s = 4) (hb0 : I 1 t = 0) (hf : I 2 t = 0) {v : Int32} {X : sh_II} (ho : sh_mM mq B md_Mod_ordered [.ref mq, .int (nI t), .int (nI s)] (sh_u2 I 0 0 0) D (some (.int v)) X D) (hsm : sp_sm (sh_u2 I 0 0 0) X) (hv : ¬ v = 0) {l : List Nat} (hr : cw_row X s l) (hlen : l.length < 6) : ac_M mq B I X D t s m y l := by
  have bz : ∀ b : Bool, ¬ b = true → sp_b b = 0 := fun b h => sp_b0 (by simpa using h)
  have bn : ∀ b : Bool, b = true → ¬ sp_b b = 0 := fun b h => by rw [sp_b1 h]; decide
  have hr2 : cw_row (sh_u2 (sh_u2 X 6 t m) 9 t 0) s l := cw_row_up (by decide) (cw_row_up (by decide) hr)
  refine ⟨fun ⟨h1, h2⟩ => ?_, fun h => ?_⟩
  · exact mx_Mod_acquire_r4_5 (mq := mq) (A := B) (I := I) (D := D) (l := l) ht hs hm hl1 hl2 hk hb0 hf ho hsm hv hr (sp_b0 h1) (bn _ h2)
  · by_cases h1 : sp_mq X t s m l = false
    · have h2 : ¬ sp_can X t s m = true := fun h2 => h ⟨h1, h2⟩
      refine ⟨fun g => ?_, fun g g' => ?_, fun g g' w => ?_⟩
      · exact mx_Mod_acquire_r4_2 (mq := mq) (A := B) (I := I) (D := D) (l := l) ht hs hm hl1 hl2 hk hb0 hf ho hsm hv hr (sp_b0 h1) (bz _ h2) g
      · have q := mx_Mod_acquire_r4_3 (mq := mq) (A := B) (I := I) (D := D) (l := l) ht hs hm hl1 hl2 hk hb0 hf ho hsm hv hr (sp_b0 h1) (bz _ h2) g g' hr2 hlen
        rw [sh_d11] at q; exact q
      · have q := mx_Mod_acquire_r4_4 (mq := mq) (A := B) (I := I) (D := D) (l := l) ht hs hm hl1 hl2 hk hb0 hf ho hsm hv hr (sp_b0 h1) (bz _ h2) g g' w hr2 hlen
        rw [sh_d11] at q; exact q
    · have h1' : sp_mq X t s m l = true := by simpa using h1
      refine ⟨fun g => ?_, fun g g' => ?_, fun g g' w => ?_⟩
      · exact mx_Mod_acquire_r4_6 (mq := mq) (A := B) (I := I) (D := D) (l := l) ht hs hm hl1 hl2 hk hb0 hf ho hsm hv hr (bn _ h1') g
      · have q := mx_Mod_acquire_r4_7 (mq := mq) (A := B) (I := I) (D := D) (l := l) ht hs hm hl1 hl2 hk hb0 hf ho hsm hv hr (bn _ h1') g g' hr2 hlen
        rw [sh_d11] at q; exact q
      · have q := mx_Mod_acquire_r4_8 (mq := mq) (A := B) (I := I) (D := D) (l := l) ht hs hm hl1 hl2 hk hb0 hf ho hsm hv hr (bn _ h1') g g' w hr2 hlen
        rw [sh_d11] at q; exact q
theorem am_5a (ht : t < 6) (hs : s < 8) (hm : m = 0 ∨ m = 1) (hl1 : ¬ (Op.cmpValue (FP.dcmp y 13830554455654793216) .l) < 0) (hl2 : (Op.cmpValue (FP.dcmp y 4652007308841189376) .g) ≤ 0) (hk : I 12 s = 5) (hb0 : I 1 t = 0) (hf : I 2 t = 0) {v : Int32} {X : sh_II} (ho : sh_mM mq B md_Mod_ordered [.ref mq, .int (nI t), .int (nI s)] (sh_u2 I 0 0 0) D (some (.int v)) X D) (hsm : sp_sm (sh_u2 I 0 0 0) X) (hv : ¬ v = 0) (hq1 : m = 1) (h17 : I 17 (6 * s + t) ≤ 0) {l : List Nat} (hr : cw_row X s l) (hlen : l.length < 6) : ac_M mq B I X D t s m y l := by
  have bz : ∀ b : Bool, ¬ b = true → sp_b b = 0 := fun b h => sp_b0 (by simpa using h)
  have bn : ∀ b : Bool, b = true → ¬ sp_b b = 0 := fun b h => by rw [sp_b1 h]; decide
  have hr2 : cw_row (sh_u2 (sh_u2 X 6 t m) 9 t 0) s l := cw_row_up (by decide) (cw_row_up (by decide) hr)
  refine ⟨fun ⟨h1, h2⟩ => ?_, fun h => ?_⟩
  · exact mx_Mod_acquire_r5_5 (mq := mq) (A := B) (I := I) (D := D) (l := l) ht hs hm hl1 hl2 hk hb0 hf ho hsm hv hq1 h17 hr (sp_b0 h1) (bn _ h2)
  · by_cases h1 : sp_mq X t s m l = false
    · have h2 : ¬ sp_can X t s m = true := fun h2 => h ⟨h1, h2⟩
      refine ⟨fun g => ?_, fun g g' => ?_, fun g g' w => ?_⟩
      · exact mx_Mod_acquire_r5_2 (mq := mq) (A := B) (I := I) (D := D) (l := l) ht hs hm hl1 hl2 hk hb0 hf ho hsm hv hq1 h17 hr (sp_b0 h1) (bz _ h2) g
      · have q := mx_Mod_acquire_r5_3 (mq := mq) (A := B) (I := I) (D := D) (l := l) ht hs hm hl1 hl2 hk hb0 hf ho hsm hv hq1 h17 hr (sp_b0 h1) (bz _ h2) g g' hr2 hlen
        rw [sh_d11] at q; exact q
      · have q := mx_Mod_acquire_r5_4 (mq := mq) (A := B) (I := I) (D := D) (l := l) ht hs hm hl1 hl2 hk hb0 hf ho hsm hv hq1 h17 hr (sp_b0 h1) (bz _ h2) g g' w hr2 hlen
        rw [sh_d11] at q; exact q
    · have h1' : sp_mq X t s m l = true := by simpa using h1
      refine ⟨fun g => ?_, fun g g' => ?_, fun g g' w => ?_⟩
      · exact mx_Mod_acquire_r5_6 (mq := mq) (A := B) (I := I) (D := D) (l := l) ht hs hm hl1 hl2 hk hb0 hf ho hsm hv hq1 h17 hr (bn _ h1') g
      · have q := mx_Mod_acquire_r5_7 (mq := mq) (A := B) (I := I) (D := D) (l := l) ht hs hm hl1 hl2 hk hb0 hf ho hsm hv hq1 h17 hr (bn _ h1') g g' hr2 hlen
        rw [sh_d11] at q; exact q
      · have q := mx_Mod_acquire_r5_8 (mq := mq) (A := B) (I := I) (D := D) (l := l) ht hs hm hl1 hl2 hk hb0 hf ho hsm hv hq1 h17 hr (bn _ h1') g g' w hr2 hlen
        rw [sh_d11] at q; exact q
theorem am_5b (ht : t < 6) (hs : s < 8) (hm : m = 0 ∨ m = 1) (hl1 : ¬ (Op.cmpValue (FP.dcmp y 13830554455654793216) .l) < 0) (hl2 : (Op.cmpValue (FP.dcmp y 4652007308841189376) .g) ≤ 0) (hk : I 12 s = 5) (hb0 : I 1 t = 0) (hf : I 2 t = 0) {v : Int32} {X : sh_II} (ho : sh_mM mq B md_Mod_ordered [.ref mq, .int (nI t), .int (nI s)] (sh_u2 I 0 0 0) D (some (.int v)) X D) (hsm : sp_sm (sh_u2 I 0 0 0) X) (hv : ¬ v = 0) (hq1 : m = 1) (h17 : ¬ I 17 (6 * s + t) ≤ 0) (h13 : I 13 s = nI t) {l : List Nat} (hr : cw_row X s l) (hlen : l.length < 6) : ac_M mq B I X D t s m y l := by
  have bz : ∀ b : Bool, ¬ b = true → sp_b b = 0 := fun b h => sp_b0 (by simpa using h)
  have bn : ∀ b : Bool, b = true → ¬ sp_b b = 0 := fun b h => by rw [sp_b1 h]; decide
  have hr2 : cw_row (sh_u2 (sh_u2 X 6 t m) 9 t 0) s l := cw_row_up (by decide) (cw_row_up (by decide) hr)
  refine ⟨fun ⟨h1, h2⟩ => ?_, fun h => ?_⟩
  · exact mx_Mod_acquire_r5_12 (mq := mq) (A := B) (I := I) (D := D) (l := l) ht hs hm hl1 hl2 hk hb0 hf ho hsm hv hq1 h17 h13 hr (sp_b0 h1) (bn _ h2)
  · by_cases h1 : sp_mq X t s m l = false
    · have h2 : ¬ sp_can X t s m = true := fun h2 => h ⟨h1, h2⟩
      refine ⟨fun g => ?_, fun g g' => ?_, fun g g' w => ?_⟩
      · exact mx_Mod_acquire_r5_9 (mq := mq) (A := B) (I := I) (D := D) (l := l) ht hs hm hl1 hl2 hk hb0 hf ho hsm hv hq1 h17 h13 hr (sp_b0 h1) (bz _ h2) g
      · have q := mx_Mod_acquire_r5_10 (mq := mq) (A := B) (I := I) (D := D) (l := l) ht hs hm hl1 hl2 hk hb0 hf ho hsm hv hq1 h17 h13 hr (sp_b0 h1) (bz _ h2) g g' hr2 hlen
        rw [sh_d11] at q; exact q
      · have q := mx_Mod_acquire_r5_11 (mq := mq) (A := B) (I := I) (D := D) (l := l) ht hs hm hl1 hl2 hk hb0 hf ho hsm hv hq1 h17 h13 hr (sp_b0 h1) (bz _ h2) g g' w hr2 hlen
        rw [sh_d11] at q; exact q
    · have h1' : sp_mq X t s m l = true := by simpa using h1
      refine ⟨fun g => ?_, fun g g' => ?_, fun g g' w => ?_⟩
      · exact mx_Mod_acquire_r5_13 (mq := mq) (A := B) (I := I) (D := D) (l := l) ht hs hm hl1 hl2 hk hb0 hf ho hsm hv hq1 h17 h13 hr (bn _ h1') g
      · have q := mx_Mod_acquire_r5_14 (mq := mq) (A := B) (I := I) (D := D) (l := l) ht hs hm hl1 hl2 hk hb0 hf ho hsm hv hq1 h17 h13 hr (bn _ h1') g g' hr2 hlen
        rw [sh_d11] at q; exact q
      · have q := mx_Mod_acquire_r5_15 (mq := mq) (A := B) (I := I) (D := D) (l := l) ht hs hm hl1 hl2 hk hb0 hf ho hsm hv hq1 h17 h13 hr (bn _ h1') g g' w hr2 hlen
        rw [sh_d11] at q; exact q
theorem am_5c (ht : t < 6) (hs : s < 8) (hm : m = 0 ∨ m = 1) (hl1 : ¬ (Op.cmpValue (FP.dcmp y 13830554455654793216) .l) < 0) (hl2 : (Op.cmpValue (FP.dcmp y 4652007308841189376) .g) ≤ 0) (hk : I 12 s = 5) (hb0 : I 1 t = 0) (hf : I 2 t = 0) {v : Int32} {X : sh_II} (ho : sh_mM mq B md_Mod_ordered [.ref mq, .int (nI t), .int (nI s)] (sh_u2 I 0 0 0) D (some (.int v)) X D) (hsm : sp_sm (sh_u2 I 0 0 0) X) (hv : ¬ v = 0) (hq1 : ¬ m = 1) {l : List Nat} (hr : cw_row X s l) (hlen : l.length < 6) : ac_M mq B I X D t s m y l := by
  have bz : ∀ b : Bool, ¬ b = true → sp_b b = 0 := fun b h => sp_b0 (by simpa using h)
  have bn : ∀ b : Bool, b = true → ¬ sp_b b = 0 := fun b h => by rw [sp_b1 h]; decide
  have hr2 : cw_row (sh_u2 (sh_u2 X 6 t m) 9 t 0) s l := cw_row_up (by decide) (cw_row_up (by decide) hr)
  refine ⟨fun ⟨h1, h2⟩ => ?_, fun h => ?_⟩
  · exact mx_Mod_acquire_r5_20 (mq := mq) (A := B) (I := I) (D := D) (l := l) ht hs hm hl1 hl2 hk hb0 hf ho hsm hv hq1 hr (sp_b0 h1) (bn _ h2)
  · by_cases h1 : sp_mq X t s m l = false
    · have h2 : ¬ sp_can X t s m = true := fun h2 => h ⟨h1, h2⟩
      refine ⟨fun g => ?_, fun g g' => ?_, fun g g' w => ?_⟩
      · exact mx_Mod_acquire_r5_17 (mq := mq) (A := B) (I := I) (D := D) (l := l) ht hs hm hl1 hl2 hk hb0 hf ho hsm hv hq1 hr (sp_b0 h1) (bz _ h2) g
      · have q := mx_Mod_acquire_r5_18 (mq := mq) (A := B) (I := I) (D := D) (l := l) ht hs hm hl1 hl2 hk hb0 hf ho hsm hv hq1 hr (sp_b0 h1) (bz _ h2) g g' hr2 hlen
        rw [sh_d11] at q; exact q
      · have q := mx_Mod_acquire_r5_19 (mq := mq) (A := B) (I := I) (D := D) (l := l) ht hs hm hl1 hl2 hk hb0 hf ho hsm hv hq1 hr (sp_b0 h1) (bz _ h2) g g' w hr2 hlen
        rw [sh_d11] at q; exact q
    · have h1' : sp_mq X t s m l = true := by simpa using h1
      refine ⟨fun g => ?_, fun g g' => ?_, fun g g' w => ?_⟩
      · exact mx_Mod_acquire_r5_21 (mq := mq) (A := B) (I := I) (D := D) (l := l) ht hs hm hl1 hl2 hk hb0 hf ho hsm hv hq1 hr (bn _ h1') g
      · have q := mx_Mod_acquire_r5_22 (mq := mq) (A := B) (I := I) (D := D) (l := l) ht hs hm hl1 hl2 hk hb0 hf ho hsm hv hq1 hr (bn _ h1') g g' hr2 hlen
        rw [sh_d11] at q; exact q
      · have q := mx_Mod_acquire_r5_23 (mq := mq) (A := B) (I := I) (D := D) (l := l) ht hs hm hl1 hl2 hk hb0 hf ho hsm hv hq1 hr (bn _ h1') g g' w hr2 hlen
        rw [sh_d11] at q; exact q
theorem rl_any (h : ∀ u, u < 6 → K 6 u = I 6 u) : ∀ (l : List Nat), (∀ u, u ∈ l → u < 6) → l.any (fun u => decide (m = 1) || decide (K 6 u = 1)) = l.any (fun u => decide (m = 1) || decide (I 6 u = 1)) := by
  intro l
  induction l with
  | nil => intro _; simp only [List.any_nil]
  | cons a r ih =>
    intro hl
    rw [List.any_cons, List.any_cons, ih (fun u hu => hl u (by simp [hu])), h a (hl a (by simp))]
theorem rl_mq (H : rl_All K L I D R k c) (hs : s < 8) (ht : t < 6) : sp_mq K t s m (R s) = sp_mq I t s m (R s) := by
  obtain ⟨y1, y2, y3, y4, y5, y6, y7, y8, y9, y10, y11, y12, y13, y14⟩ := H.2.1 s hs
  have hl : ∀ u, u ∈ R s → u < 6 := fun u hu => cw_row_lt (H.2.2.2.1 s hs).1 hu
  unfold sp_mq
  rw [y1, y2, (y14 t ht).1, rl_any (fun u hu => (H.1 u hu).2.2.2.1) _ hl]
theorem rl_again1 {I : sh_II} (h1 : I 12 s = 1) (h2 : I 13 s = nI t) {l : List Nat} : sp_mq I t s m l = false ∧ sp_can I t s m = true := by
  unfold sp_mq sp_can
  simp [h1, h2]
/-- the gate's own answer -/
theorem sm_gate {X Y : sh_II} (HX : rl_All X L Y D R k c) (ht : t < 6) (hs : s < 8) (hm : m = 0 ∨ m = 1) (hz : ¬ Y 12 s = 6) (hm1 : ¬ Y 12 s = -1) (h5 : Y 5 t = -1) (h0 : Y 0 0 = 0) (hc : c + 1 ≤ 2 ^ 20) (hl1 : ¬ (Op.cmpValue (FP.dcmp y 13830554455654793216) .l) < 0) (hl2 : (Op.cmpValue (FP.dcmp y 4652007308841189376) .g) ≤ 0)
    (hC : ac_C A K X L t s m y (R s)) (hM : ac_M mq B I Y D t s m y (R s)) : sm_ok A mq B md_Hall_acquire [.ref (A 0), .int (nI t), .int (nI s), .int m, .double y] md_Mod_acquire [.ref mq, .int (nI t), .int (nI s), .int m, .double y] K L I D k (c + 1) sm_4 := by
  have emq := rl_mq (m := m) HX hs ht
  have ecan := rl_can (t := t) HX hs m
  obtain ⟨C1, C2⟩ := hC
  obtain ⟨M1, M2⟩ := hM
  rw [emq, ecan] at C1 C2
  obtain ⟨g1, g2, g3, g4, g5, g6, -⟩ := HX.2.2.2.2.2.2
  obtain ⟨r1, r2, r3⟩ := rl_running HX ht h5
  by_cases h : sp_mq Y t s m (R s) = false ∧ sp_can Y t s m = true
  · refine sm_r (C1 h) (M1 h) (rl_take HX hs ht hz hm1 h5 (by omega) h.2) rfl ?_
    rw [sh_u2_row (by decide), sp_mtk_keep (by decide)]; exact h0
  · have hno : Y 12 s = 1 → ¬ Y 13 s = nI t := fun a b => h (rl_again1 a b)
    obtain ⟨C2, C3, C4⟩ := C2 h
    obtain ⟨M2, M3, M4⟩ := M2 h
    by_cases g : (Op.cmpValue (FP.dcmp y FP.dconst0) .l) = 0
    · have HT : rl_All (sh_u2 (sh_u2 X 4 t 2) 27 t 0) L (sh_u2 Y 4 t 2) D R k c := by
        obtain ⟨t1, t2, t3, t4, t5, t6, t7, t8, t9, hp⟩ := HX.1 t ht
        refine rl_thr HX ht (fun r b hn => ?_) (fun r b hn => ?_) ?_ ?_ ?_ (.inl ⟨h5, ?_⟩)
        · unfold sh_u2; rw [if_neg (fun e => hn (by simp [e])), if_neg (fun e => hn (by simp [e]))]
        · unfold sh_u2; rw [if_neg (fun e => hn (by simp [e]))]
        · simp [sh_u2]; exact t1
        · simp [sh_u2]; exact t7
        · simp [sh_u2]
        · simp [sh_u2]
      exact sm_r (C2 g) (M2 g) (HT.mono (by omega)) rfl (by rw [sh_u2_row (by decide)]; exact h0)
    · have i0 : ∀ z, sh_u2 (sp_ment (sh_u2 (sh_u2 Y 6 t m) 9 t 0) s t z) 4 t 0 0 0 = 0 := fun z => by simp [sp_ment, sh_u2]; exact h0
      by_cases g' : (Op.cmpValue (FP.dcmp y FP.dconst0) .l) ≤ 0
      · have HE := rl_enter HX hs ht hz hm1 h5 hm hno (e := 0) (x := L 7 t) (y := 13830554455654793216) (.inr ⟨rfl, fp_m1⟩) (K' := sp_enq (sh_u2 (sh_u2 X 9 t 1) 10 t 1) s t m (R s)) (L' := sh_u2 L 8 t (L 11 0)) (by
          funext a b
          unfold sh_u2
          split
          · rename_i e; rw [e.1, e.2]; simp [sp_enq, sh_u2]; exact r2
          · rfl) (by
          funext a b
          unfold sh_u2
          split
          · rename_i e; rw [e.1, e.2]; simp
          · split
            · rename_i e; rw [e.1, e.2]
            · rfl) rfl rfl
        exact sm_r (C3 g g') (M3 g g') (HE.mono (by omega)) rfl (i0 _)
      · obtain ⟨f1, f2⟩ := fp_by (fun q => g' (by
          rw [Int32.le_iff_toInt_le]
          rw [Int32.lt_iff_toInt_lt] at q
          omega)) hl2
        have hv : vf_n64 (FP.dadd (D 11 0) y) := (g4.add f1 (by omega)).vf
        have hv' : vf_n64 (FP.dadd (L 11 0) y) := by rw [g3]; exact hv
        have hn : ¬ rl_neg (FP.dadd (D 11 0) y) := fun q => by
          have := (fp_neg' (g4.add f1 (by omega))).mp q
          have := fp_add0 g4 f1 g5 f2
          omega
        have HE := rl_enter HX hs ht hz hm1 h5 hm hno (e := 1) (x := FP.dadd (L 11 0) y) (y := FP.dadd (D 11 0) y) (.inl ⟨rfl, by rw [g3], hn⟩) rfl rfl rfl rfl
        exact sm_r (C4 g g' hv') (M4 g g' hv) (HE.mono (by omega)) rfl (i0 _)
end SMD
section SME
variable {A : Nat → Nat} {mq : Nat} {B : Nat → Nat} {K K' : sh_II} {L L' : sh_DD} {I I' : sh_II} {D D' : sh_DD} {R R' : Nat → List Nat} {k c : Nat} {s t : Nat} {m : Int32} {y : UInt64}
theorem sp_mko_keep {r : Nat} (h : r ≠ 22 ∧ r ≠ 25) (b : Nat) : sp_mko I t s r b = I r b := by
  unfold sp_mko
  split
  · unfold sp_mput
    rw [(mput_at t s (List.range' 0 8) _).1 r b h.1]
    split
    · exact sh_u2_row h.2 b
    · rfl
  · rfl
/-- ordered of the reference, beside keepOrder -/
theorem sm_ord (H : rl_All K L I D R k c) (hs : s < 8) (ht : t < 6) (hc : c < 2 ^ 31) : ∃ X', sh_mM mq B md_Mod_ordered [.ref mq, .int (nI t), .int (nI s)] (sh_u2 I 0 0 0) D (some (.int (sp_b (!sp_kt K t s)))) X' D ∧ sp_sm (sh_u2 I 0 0 0) X' ∧ (sp_kt K t s = true → rl_All (sh_u2 K 25 0 ((K 25 0) + 1)) L X' D R k c) ∧ (¬ sp_kt K t s = true → rl_All (sp_ko K t s) L X' D R k c) := by
  have H0 := rl_00 (x := 0) H
  obtain ⟨X', e, hM⟩ := ml_ordered (mq := mq) (A := B) (I := sh_u2 I 0 0 0) (D := D) ht hs H0.2.2.2.2.2.2.2.2.2.2.2.2.2.1
  have ekt := rl_kt H0 hs ht hc
  rw [← ekt] at e hM
  refine ⟨X', hM, fun r hr b => ?_, fun h => ?_, fun h => ?_⟩
  · rw [e r b hr.2.1]
    split
    · exact sh_u2_row hr.2.2 b
    · exact sp_mko_keep ⟨hr.1, hr.2.2⟩ b
  · rw [if_pos h] at e
    exact rl_free (rl_warn H0) (fun r b _ h23 => e r b h23)
  · rw [if_neg h] at e
    exact rl_free (rl_order H0 hs ht hc) (fun r b _ h23 => e r b h23)
theorem sp_ko_n (h : ¬ cw_cl (K 12 s) = 4) : sp_kt K t s = false ∧ sp_ko K t s = K := by
  have : sp_kw K t s = false := by unfold sp_kw; simp [h]
  exact ⟨by unfold sp_kt; rw [this]; rfl, by unfold sp_ko; rw [this]; rfl⟩
theorem sm_drop (H : rl_All K L I D R k c) (ht : t < 6) (h5 : I 5 t = -1) : rl_All (sh_u2 (sh_u2 (sh_u2 K 2 t 0) 4 t 3) 27 t 0) L (sh_u2 (sh_u2 (sh_u2 I 0 0 0) 2 t 0) 4 t 3) D R k c := by
  refine rl_thr (rl_00 (x := 0) H) ht (fun r b hn => ?_) (fun r b hn => ?_) ?_ ?_ ?_ (.inl ⟨?_, ?_⟩)
  · unfold sh_u2; rw [if_neg (fun e => hn (by simp [e])), if_neg (fun e => hn (by simp [e])), if_neg (fun e => hn (by simp [e]))]
  · generalize sh_u2 I 0 0 0 = Z
    unfold sh_u2; rw [if_neg (fun e => hn (by simp [e])), if_neg (fun e => hn (by simp [e]))]
  · simp [sh_u2]
  · simp [sh_u2]
  · simp [sh_u2]
  · simp [sh_u2]; exact h5
  · simp [sh_u2]
theorem sm_acq_0 (H : rl_All K L I D R k c) (ht : t < 6) (hs : s < 8) (hm : m = 0 ∨ m = 1) (hl1 : ¬ (Op.cmpValue (FP.dcmp y (FP.i2d (-1))) .l) < 0) (hl2 : (Op.cmpValue (FP.dcmp y (FP.i2d 1000)) .g) ≤ 0) (hc : c + 1 ≤ 2 ^ 20) (p5 : K 5 t = -1) (i5 : I 5 t = -1) (i1 : I 1 t = 0) (hk : cw_cl (K 12 s) = 4) (hi : I 12 s = 0) : sm_ok A mq B md_Hall_acquire [.ref (A 0), .int (nI t), .int (nI s), .int m, .double y] md_Mod_acquire [.ref mq, .int (nI t), .int (nI s), .int m, .double y] K L I D k (c + 1) sm_4 := by
  have hl1' : ¬ (Op.cmpValue (FP.dcmp y 13830554455654793216) .l) < 0 := by rw [← fp_im1]; exact hl1
  have hl2' : (Op.cmpValue (FP.dcmp y 4652007308841189376) .g) ≤ 0 := by rw [← fp_i1000]; exact hl2
  obtain ⟨t1, t2, t3, t4, t5, t6, t7, t8, t9, hp⟩ := H.1 t ht
  obtain ⟨y1, y2, y3, y4, y5, y6, y7, y8, y9, y10, y11, y12, y13, y14⟩ := H.2.1 s hs
  obtain ⟨hr, hri, hnd, -⟩ := H.2.2.2.1 s hs
  have hlen := rl_len hr hnd ht (rl_run H ht i5 hs)
  have ho := rl_okr H
  by_cases hf : I 2 t = 0
  · have hf' : K 2 t = 0 := t1.trans hf
    have eK : sh_u2 K 2 t 0 = K := by rw [← hf']; exact sh_u2_self K 2 t
    obtain ⟨X', hM, hsm, w1, w2⟩ := sm_ord (mq := mq) (B := B) H hs ht (by omega)
    have e12 : X' 12 s = 0 := (hsm 12 (by decide) s).trans ((sh_u2_row (by decide) s).trans hi)
    have e5 : X' 5 t = -1 := (hsm 5 (by decide) t).trans ((sh_u2_row (by decide) t).trans i5)
    have e0 : X' 0 0 = 0 := (hsm 0 (by decide) 0).trans (sh_u2_eq _ _ _ _)
    by_cases hkt : sp_kt K t s = true
    · have q := ct_Hall_acquire_Lock_1 (A := A) (L := L) ht hs hm hl1 hl2 p5 ho hr hlen hk (sp_nar (.inl hf')) hf' (by rw [eK]; exact hkt)
      rw [eK] at q
      rw [hkt] at hM
      exact (sm_t 4 q (mx_Mod_acquire_r0_1 (l := R s) ht hs hm hl1' hl2' hi i1 hf hM hsm (by decide)) (rl_00 (w1 hkt)) (by decide) (by rw [sh_u2_eq]; decide)).mono (by omega)
    · have hv : ¬ sp_b (!sp_kt K t s) = 0 := by rw [show sp_kt K t s = false by simpa using hkt]; decide
      have hr' := ((w2 hkt).2.2.2.1 s hs).2.1
      exact sm_gate (w2 hkt) ht hs hm (by rw [e12]; decide) (by rw [e12]; decide) e5 e0 hc hl1' hl2' (ac_Lock ht hs hm hl1 hl2 p5 ho hr hlen hk hf' hkt) (am_0 ht hs hm hl1' hl2' hi i1 hf hM hsm hv hr' hlen)
  · have hf' : ¬ K 2 t = 0 := by rw [t1]; exact hf
    exact (sm_r (ct_Hall_acquire_Lock_9 ht hs hm hl1 hl2 p5 ho hr hlen hk (sp_nar (by rw [t1]; exact t7)) hf') (mx_Mod_acquire_r0_9 (l := R s) ht hs hm hl1' hl2' hi i1 hf) (sm_drop H ht i5) rfl (by rw [sh_u2_row (by decide), sh_u2_row (by decide), sh_u2_eq])).mono (by omega)
theorem sm_acq_1 (H : rl_All K L I D R k c) (ht : t < 6) (hs : s < 8) (hm : m = 0 ∨ m = 1) (hl1 : ¬ (Op.cmpValue (FP.dcmp y (FP.i2d (-1))) .l) < 0) (hl2 : (Op.cmpValue (FP.dcmp y (FP.i2d 1000)) .g) ≤ 0) (hc : c + 1 ≤ 2 ^ 20) (p5 : K 5 t = -1) (i5 : I 5 t = -1) (i1 : I 1 t = 0) (hk : cw_cl (K 12 s) = 4) (hi : I 12 s = 1) : sm_ok A mq B md_Hall_acquire [.ref (A 0), .int (nI t), .int (nI s), .int m, .double y] md_Mod_acquire [.ref mq, .int (nI t), .int (nI s), .int m, .double y] K L I D k (c + 1) sm_4 := by
  have hl1' : ¬ (Op.cmpValue (FP.dcmp y 13830554455654793216) .l) < 0 := by rw [← fp_im1]; exact hl1
  have hl2' : (Op.cmpValue (FP.dcmp y 4652007308841189376) .g) ≤ 0 := by rw [← fp_i1000]; exact hl2
  obtain ⟨t1, t2, t3, t4, t5, t6, t7, t8, t9, hp⟩ := H.1 t ht
  obtain ⟨y1, y2, y3, y4, y5, y6, y7, y8, y9, y10, y11, y12, y13, y14⟩ := H.2.1 s hs
  obtain ⟨hr, hri, hnd, -⟩ := H.2.2.2.1 s hs
  have hlen := rl_len hr hnd ht (rl_run H ht i5 hs)
  have ho := rl_okr H
  by_cases hf : I 2 t = 0
  · have hf' : K 2 t = 0 := t1.trans hf
    have eK : sh_u2 K 2 t 0 = K := by rw [← hf']; exact sh_u2_self K 2 t
    obtain ⟨X', hM, hsm, w1, w2⟩ := sm_ord (mq := mq) (B := B) H hs ht (by omega)
    have e12 : X' 12 s = 1 := (hsm 12 (by decide) s).trans ((sh_u2_row (by decide) s).trans hi)
    have e5 : X' 5 t = -1 := (hsm 5 (by decide) t).trans ((sh_u2_row (by decide) t).trans i5)
    have e0 : X' 0 0 = 0 := (hsm 0 (by decide) 0).trans (sh_u2_eq _ _ _ _)
    by_cases hkt : sp_kt K t s = true
    · have q := ct_Hall_acquire_Lock_1 (A := A) (L := L) ht hs hm hl1 hl2 p5 ho hr hlen hk (sp_nar (.inl hf')) hf' (by rw [eK]; exact hkt)
      rw [eK] at q
      rw [hkt] at hM
      exact (sm_t 4 q (mx_Mod_acquire_r1_1 (l := R s) ht hs hm hl1' hl2' hi i1 hf hM hsm (by decide)) (rl_00 (w1 hkt)) (by decide) (by rw [sh_u2_eq]; decide)).mono (by omega)
    · have hv : ¬ sp_b (!sp_kt K t s) = 0 := by rw [show sp_kt K t s = false by simpa using hkt]; decide
      have hr' := ((w2 hkt).2.2.2.1 s hs).2.1
      exact sm_gate (w2 hkt) ht hs hm (by rw [e12]; decide) (by rw [e12]; decide) e5 e0 hc hl1' hl2' (ac_Lock ht hs hm hl1 hl2 p5 ho hr hlen hk hf' hkt) (am_1 ht hs hm hl1' hl2' hi i1 hf hM hsm hv hr' hlen)
  · have hf' : ¬ K 2 t = 0 := by rw [t1]; exact hf
    exact (sm_r (ct_Hall_acquire_Lock_9 ht hs hm hl1 hl2 p5 ho hr hlen hk (sp_nar (by rw [t1]; exact t7)) hf') (mx_Mod_acquire_r1_9 (l := R s) ht hs hm hl1' hl2' hi i1 hf) (sm_drop H ht i5) rfl (by rw [sh_u2_row (by decide), sh_u2_row (by decide), sh_u2_eq])).mono (by omega)
theorem sm_acq_2 (H : rl_All K L I D R k c) (ht : t < 6) (hs : s < 8) (hm : m = 0 ∨ m = 1) (hl1 : ¬ (Op.cmpValue (FP.dcmp y (FP.i2d (-1))) .l) < 0) (hl2 : (Op.cmpValue (FP.dcmp y (FP.i2d 1000)) .g) ≤ 0) (hc : c + 1 ≤ 2 ^ 20) (p5 : K 5 t = -1) (i5 : I 5 t = -1) (i1 : I 1 t = 0) (hk : cw_cl (K 12 s) = 5) (hi : I 12 s = 2) : sm_ok A mq B md_Hall_acquire [.ref (A 0), .int (nI t), .int (nI s), .int m, .double y] md_Mod_acquire [.ref mq, .int (nI t), .int (nI s), .int m, .double y] K L I D k (c + 1) sm_4 := by
  have hl1' : ¬ (Op.cmpValue (FP.dcmp y 13830554455654793216) .l) < 0 := by rw [← fp_im1]; exact hl1
  have hl2' : (Op.cmpValue (FP.dcmp y 4652007308841189376) .g) ≤ 0 := by rw [← fp_i1000]; exact hl2
  obtain ⟨t1, t2, t3, t4, t5, t6, t7, t8, t9, hp⟩ := H.1 t ht
  obtain ⟨y1, y2, y3, y4, y5, y6, y7, y8, y9, y10, y11, y12, y13, y14⟩ := H.2.1 s hs
  obtain ⟨hr, hri, hnd, -⟩ := H.2.2.2.1 s hs
  have hlen := rl_len hr hnd ht (rl_run H ht i5 hs)
  have ho := rl_okr H
  by_cases hf : I 2 t = 0
  · have hf' : K 2 t = 0 := t1.trans hf
    have eK : sh_u2 K 2 t 0 = K := by rw [← hf']; exact sh_u2_self K 2 t
    obtain ⟨X', hM, hsm, w1, w2⟩ := sm_ord (mq := mq) (B := B) H hs ht (by omega)
    have e12 : X' 12 s = 2 := (hsm 12 (by decide) s).trans ((sh_u2_row (by decide) s).trans hi)
    have e5 : X' 5 t = -1 := (hsm 5 (by decide) t).trans ((sh_u2_row (by decide) t).trans i5)
    have e0 : X' 0 0 = 0 := (hsm 0 (by decide) 0).trans (sh_u2_eq _ _ _ _)
    obtain ⟨n1, n2⟩ := sp_ko_n (K := K) (s := s) (t := t) (by rw [hk]; decide)
    have hkt : ¬ sp_kt K t s = true := by rw [n1]; decide
    have hv : ¬ sp_b (!sp_kt K t s) = 0 := by rw [n1]; decide
    rw [n2] at w2
    have hr' := ((w2 hkt).2.2.2.1 s hs).2.1
    exact sm_gate (w2 hkt) ht hs hm (by rw [e12]; decide) (by rw [e12]; decide) e5 e0 hc hl1' hl2' (ac_Semaphore ht hs hm hl1 hl2 p5 ho hr hlen hk hf') (am_2 ht hs hm hl1' hl2' hi i1 hf hM hsm hv hr' hlen)
  · have hf' : ¬ K 2 t = 0 := by rw [t1]; exact hf
    exact (sm_r (ct_Hall_acquire_Semaphore_8 ht hs hm hl1 hl2 p5 ho hr hlen hk (sp_nar (by rw [t1]; exact t7)) hf') (mx_Mod_acquire_r2_9 (l := R s) ht hs hm hl1' hl2' hi i1 hf) (sm_drop H ht i5) rfl (by rw [sh_u2_row (by decide), sh_u2_row (by decide), sh_u2_eq])).mono (by omega)
theorem sm_acq_3 (H : rl_All K L I D R k c) (ht : t < 6) (hs : s < 8) (hm : m = 0 ∨ m = 1) (hl1 : ¬ (Op.cmpValue (FP.dcmp y (FP.i2d (-1))) .l) < 0) (hl2 : (Op.cmpValue (FP.dcmp y (FP.i2d 1000)) .g) ≤ 0) (hc : c + 1 ≤ 2 ^ 20) (p5 : K 5 t = -1) (i5 : I 5 t = -1) (i1 : I 1 t = 0) (hk : cw_cl (K 12 s) = 5) (hi : I 12 s = 3) : sm_ok A mq B md_Hall_acquire [.ref (A 0), .int (nI t), .int (nI s), .int m, .double y] md_Mod_acquire [.ref mq, .int (nI t), .int (nI s), .int m, .double y] K L I D k (c + 1) sm_4 := by
  have hl1' : ¬ (Op.cmpValue (FP.dcmp y 13830554455654793216) .l) < 0 := by rw [← fp_im1]; exact hl1
  have hl2' : (Op.cmpValue (FP.dcmp y 4652007308841189376) .g) ≤ 0 := by rw [← fp_i1000]; exact hl2
  obtain ⟨t1, t2, t3, t4, t5, t6, t7, t8, t9, hp⟩ := H.1 t ht
  obtain ⟨y1, y2, y3, y4, y5, y6, y7, y8, y9, y10, y11, y12, y13, y14⟩ := H.2.1 s hs
  obtain ⟨hr, hri, hnd, -⟩ := H.2.2.2.1 s hs
  have hlen := rl_len hr hnd ht (rl_run H ht i5 hs)
  have ho := rl_okr H
  by_cases hf : I 2 t = 0
  · have hf' : K 2 t = 0 := t1.trans hf
    have eK : sh_u2 K 2 t 0 = K := by rw [← hf']; exact sh_u2_self K 2 t
    obtain ⟨X', hM, hsm, w1, w2⟩ := sm_ord (mq := mq) (B := B) H hs ht (by omega)
    have e12 : X' 12 s = 3 := (hsm 12 (by decide) s).trans ((sh_u2_row (by decide) s).trans hi)
    have e5 : X' 5 t = -1 := (hsm 5 (by decide) t).trans ((sh_u2_row (by decide) t).trans i5)
    have e0 : X' 0 0 = 0 := (hsm 0 (by decide) 0).trans (sh_u2_eq _ _ _ _)
    obtain ⟨n1, n2⟩ := sp_ko_n (K := K) (s := s) (t := t) (by rw [hk]; decide)
    have hkt : ¬ sp_kt K t s = true := by rw [n1]; decide
    have hv : ¬ sp_b (!sp_kt K t s) = 0 := by rw [n1]; decide
    rw [n2] at w2
    have hr' := ((w2 hkt).2.2.2.1 s hs).2.1
    exact sm_gate (w2 hkt) ht hs hm (by rw [e12]; decide) (by rw [e12]; decide) e5 e0 hc hl1' hl2' (ac_Semaphore ht hs hm hl1 hl2 p5 ho hr hlen hk hf') (am_3 ht hs hm hl1' hl2' hi i1 hf hM hsm hv hr' hlen)
  · have hf' : ¬ K 2 t = 0 := by rw [t1]; exact hf
    exact (sm_r (ct_Hall_acquire_Semaphore_8 ht hs hm hl1 hl2 p5 ho hr hlen hk (sp_nar (by rw [t1]; exact t7)) hf') (mx_Mod_acquire_r3_9 (l := R s) ht hs hm hl1' hl2' hi i1 hf) (sm_drop H ht i5) rfl (by rw [sh_u2_row (by decide), sh_u2_row (by decide), sh_u2_eq])).mono (by omega)
theorem sm_acq_4 (H : rl_All K L I D R k c) (ht : t < 6) (hs : s < 8) (hm : m = 0 ∨ m = 1) (hl1 : ¬ (Op.cmpValue (FP.dcmp y (FP.i2d (-1))) .l) < 0) (hl2 : (Op.cmpValue (FP.dcmp y (FP.i2d 1000)) .g) ≤ 0) (hc : c + 1 ≤ 2 ^ 20) (p5 : K 5 t = -1) (i5 : I 5 t = -1) (i1 : I 1 t = 0) (hk : cw_cl (K 12 s) = 6) (hi : I 12 s = 4) : sm_ok A mq B md_Hall_acquire [.ref (A 0), .int (nI t), .int (nI s), .int m, .double y] md_Mod_acquire [.ref mq, .int (nI t), .int (nI s), .int m, .double y] K L I D k (c + 1) sm_4 := by
  have hl1' : ¬ (Op.cmpValue (FP.dcmp y 13830554455654793216) .l) < 0 := by rw [← fp_im1]; exact hl1
  have hl2' : (Op.cmpValue (FP.dcmp y 4652007308841189376) .g) ≤ 0 := by rw [← fp_i1000]; exact hl2
  obtain ⟨t1, t2, t3, t4, t5, t6, t7, t8, t9, hp⟩ := H.1 t ht
  obtain ⟨y1, y2, y3, y4, y5, y6, y7, y8, y9, y10, y11, y12, y13, y14⟩ := H.2.1 s hs
  obtain ⟨hr, hri, hnd, -⟩ := H.2.2.2.1 s hs
  have hlen := rl_len hr hnd ht (rl_run H ht i5 hs)
  have ho := rl_okr H
  by_cases hf : I 2 t = 0
  · have hf' : K 2 t = 0 := t1.trans hf
    have eK : sh_u2 K 2 t 0 = K := by rw [← hf']; exact sh_u2_self K 2 t
    obtain ⟨X', hM, hsm, w1, w2⟩ := sm_ord (mq := mq) (B := B) H hs ht (by omega)
    have e12 : X' 12 s = 4 := (hsm 12 (by decide) s).trans ((sh_u2_row (by decide) s).trans hi)
    have e5 : X' 5 t = -1 := (hsm 5 (by decide) t).trans ((sh_u2_row (by decide) t).trans i5)
    have e0 : X' 0 0 = 0 := (hsm 0 (by decide) 0).trans (sh_u2_eq _ _ _ _)
    obtain ⟨n1, n2⟩ := sp_ko_n (K := K) (s := s) (t := t) (by rw [hk]; decide)
    have hkt : ¬ sp_kt K t s = true := by rw [n1]; decide
    have hv : ¬ sp_b (!sp_kt K t s) = 0 := by rw [n1]; decide
    rw [n2] at w2
    have hr' := ((w2 hkt).2.2.2.1 s hs).2.1
    exact sm_gate (w2 hkt) ht hs hm (by rw [e12]; decide) (by rw [e12]; decide) e5 e0 hc hl1' hl2' (ac_Latch ht hs hm hl1 hl2 p5 ho hr hlen hk hf') (am_4 ht hs hm hl1' hl2' hi i1 hf hM hsm hv hr' hlen)
  · have hf' : ¬ K 2 t = 0 := by rw [t1]; exact hf
    exact (sm_r (ct_Hall_acquire_Latch_8 ht hs hm hl1 hl2 p5 ho hr hlen hk (sp_nar (by rw [t1]; exact t7)) hf') (mx_Mod_acquire_r4_9 (l := R s) ht hs hm hl1' hl2' hi i1 hf) (sm_drop H ht i5) rfl (by rw [sh_u2_row (by decide), sh_u2_row (by decide), sh_u2_eq])).mono (by omega)
theorem sm_acq_5 (H : rl_All K L I D R k c) (ht : t < 6) (hs : s < 8) (hm : m = 0 ∨ m = 1) (hl1 : ¬ (Op.cmpValue (FP.dcmp y (FP.i2d (-1))) .l) < 0) (hl2 : (Op.cmpValue (FP.dcmp y (FP.i2d 1000)) .g) ≤ 0) (hc : c + 1 ≤ 2 ^ 20) (p5 : K 5 t = -1) (i5 : I 5 t = -1) (i1 : I 1 t = 0) (hk : cw_cl (K 12 s) = 7) (hi : I 12 s = 5) : sm_ok A mq B md_Hall_acquire [.ref (A 0), .int (nI t), .int (nI s), .int m, .double y] md_Mod_acquire [.ref mq, .int (nI t), .int (nI s), .int m, .double y] K L I D k (c + 1) sm_4 := by
  have hl1' : ¬ (Op.cmpValue (FP.dcmp y 13830554455654793216) .l) < 0 := by rw [← fp_im1]; exact hl1
  have hl2' : (Op.cmpValue (FP.dcmp y 4652007308841189376) .g) ≤ 0 := by rw [← fp_i1000]; exact hl2
  obtain ⟨t1, t2, t3, t4, t5, t6, t7, t8, t9, hp⟩ := H.1 t ht
  obtain ⟨y1, y2, y3, y4, y5, y6, y7, y8, y9, y10, y11, y12, y13, y14⟩ := H.2.1 s hs
  obtain ⟨hr, hri, hnd, -⟩ := H.2.2.2.1 s hs
  have hlen := rl_len hr hnd ht (rl_run H ht i5 hs)
  have ho := rl_okr H
  by_cases hf : I 2 t = 0
  · have hf' : K 2 t = 0 := t1.trans hf
    have eK : sh_u2 K 2 t 0 = K := by rw [← hf']; exact sh_u2_self K 2 t
    obtain ⟨X', hM, hsm, w1, w2⟩ := sm_ord (mq := mq) (B := B) H hs ht (by omega)
    have e12 : X' 12 s = 5 := (hsm 12 (by decide) s).trans ((sh_u2_row (by decide) s).trans hi)
    have e5 : X' 5 t = -1 := (hsm 5 (by decide) t).trans ((sh_u2_row (by decide) t).trans i5)
    have e0 : X' 0 0 = 0 := (hsm 0 (by decide) 0).trans (sh_u2_eq _ _ _ _)
    obtain ⟨n1, n2⟩ := sp_ko_n (K := K) (s := s) (t := t) (by rw [hk]; decide)
    have hkt : ¬ sp_kt K t s = true := by rw [n1]; decide
    have hv : ¬ sp_b (!sp_kt K t s) = 0 := by rw [n1]; decide
    rw [n2] at w2
    have hr' := ((w2 hkt).2.2.2.1 s hs).2.1
    by_cases hcw : sp_cw K t s m = true
    · have q := ct_Hall_acquire_Shared_1 (A := A) (L := L) ht hs hm hl1 hl2 p5 ho hr hlen hk (sp_nar (.inl hf')) hf' (by rw [eK]; exact hcw)
      rw [eK] at q
      unfold sp_cw at hcw
      rw [y2, (y14 t ht).1, decide_eq_true_iff] at hcw
      exact (sm_t 4 q (mx_Mod_acquire_r5_16 (l := R s) ht hs hm hl1' hl2' hi i1 hf hM hsm hv hcw.1 hcw.2.1 hcw.2.2) (rl_00 (w2 hkt)) (by decide) (by rw [sh_u2_eq]; decide)).mono (by omega)
    · have hC := ac_Shared (A := A) (L := L) ht hs hm hl1 hl2 p5 ho hr hlen hk hf' hcw
      unfold sp_cw at hcw
      rw [y2, (y14 t ht).1, decide_eq_true_iff] at hcw
      by_cases h1 : m = 1
      · by_cases h17 : I 17 (6 * s + t) ≤ 0
        · exact sm_gate (w2 hkt) ht hs hm (by rw [e12]; decide) (by rw [e12]; decide) e5 e0 hc hl1' hl2' (hC) (am_5a ht hs hm hl1' hl2' hi i1 hf hM hsm hv h1 h17 hr' hlen)
        · have h13 : I 13 s = nI t := Classical.byContradiction fun h13 => hcw ⟨h1, h17, h13⟩
          exact sm_gate (w2 hkt) ht hs hm (by rw [e12]; decide) (by rw [e12]; decide) e5 e0 hc hl1' hl2' (hC) (am_5b ht hs hm hl1' hl2' hi i1 hf hM hsm hv h1 h17 h13 hr' hlen)
      · exact sm_gate (w2 hkt) ht hs hm (by rw [e12]; decide) (by rw [e12]; decide) e5 e0 hc hl1' hl2' (hC) (am_5c ht hs hm hl1' hl2' hi i1 hf hM hsm hv h1 hr' hlen)
  · have hf' : ¬ K 2 t = 0 := by rw [t1]; exact hf
    exact (sm_r (ct_Hall_acquire_Shared_9 ht hs hm hl1 hl2 p5 ho hr hlen hk (sp_nar (by rw [t1]; exact t7)) hf') (mx_Mod_acquire_r5_24 (l := R s) ht hs hm hl1' hl2' hi i1 hf) (sm_drop H ht i5) rfl (by rw [sh_u2_row (by decide), sh_u2_row (by decide), sh_u2_eq])).mono (by omega)
theorem sm_acquire {x o : Int32} (H : rl_All K L I D R k c) (hc : c + 1 ≤ 2 ^ 20) : sm_ok A mq B md_Hall_acquire [.ref (A 0), .int x, .int o, .int m, .double y] md_Mod_acquire [.ref mq, .int x, .int o, .int m, .double y] K L I D k (c + 1) sm_4 := by
  rcases sm_rng (a := 5) (b := 6) (m := 5) (by decide) (by decide) x with h | ⟨h1, h2, h3⟩ | ⟨t, ht, rfl, -⟩
  · exact (sm_t1 1 H (ct_Hall_acquire_x_1 h) (mx_Mod_acquire_x_1 h) (by decide) (by decide)).mono (by omega)
  · exact (sm_t1 1 H (ct_Hall_acquire_x_2 h1 h2) (mx_Mod_acquire_x_8 h1 h3) (by decide) (by decide)).mono (by omega)
  rcases sm_rng (a := 1) (b := 2) (m := 1) (by decide) (by decide) m with h | ⟨h1, h2, h3⟩ | ⟨i, hi, -, m1, m2, m3⟩
  · rcases sm_rng (a := 7) (b := 8) (m := 7) (by decide) (by decide) o with g | ⟨g1, g2, g3⟩ | ⟨s, hs, -, g1, g2, g3⟩
    · exact (sm_t1 1 H (ct_Hall_acquire_t_1 ht h) (mx_Mod_acquire_t_1 ht g) (by decide) (by decide)).mono (by omega)
    · exact (sm_t1 1 H (ct_Hall_acquire_t_1 ht h) (mx_Mod_acquire_t_6 ht g1 g3) (by decide) (by decide)).mono (by omega)
    · exact (sm_t1 1 H (ct_Hall_acquire_t_1 ht h) (mx_Mod_acquire_t_2 ht g1 g3 h) (by decide) (by decide)).mono (by omega)
  · rcases sm_rng (a := 7) (b := 8) (m := 7) (by decide) (by decide) o with g | ⟨g1, g2, g3⟩ | ⟨s, hs, -, g1, g2, g3⟩
    · exact (sm_t1 1 H (ct_Hall_acquire_t_6 ht h1 h2) (mx_Mod_acquire_t_1 ht g) (by decide) (by decide)).mono (by omega)
    · exact (sm_t1 1 H (ct_Hall_acquire_t_6 ht h1 h2) (mx_Mod_acquire_t_6 ht g1 g3) (by decide) (by decide)).mono (by omega)
    · exact (sm_t1 1 H (ct_Hall_acquire_t_6 ht h1 h2) (mx_Mod_acquire_t_5 ht g1 g3 h1 h3) (by decide) (by decide)).mono (by omega)
  have hm := sm_md m1 m2
  by_cases f : (Op.cmpValue (FP.dcmp y (FP.i2d (-1))) .l) < 0
  · rcases sm_rng (a := 7) (b := 8) (m := 7) (by decide) (by decide) o with g | ⟨g1, g2, g3⟩ | ⟨s, hs, -, g1, g2, g3⟩
    · exact (sm_t1 1 H (ct_Hall_acquire_t_2 ht m1 m2 f) (mx_Mod_acquire_t_1 ht g) (by decide) (by decide)).mono (by omega)
    · exact (sm_t1 1 H (ct_Hall_acquire_t_2 ht m1 m2 f) (mx_Mod_acquire_t_6 ht g1 g3) (by decide) (by decide)).mono (by omega)
    · exact (sm_t1 1 H (ct_Hall_acquire_t_2 ht m1 m2 f) (mx_Mod_acquire_t_3 ht g1 g3 m1 m3 (by rw [← fp_im1]; exact f)) (by decide) (by decide)).mono (by omega)
  by_cases f2 : (Op.cmpValue (FP.dcmp y (FP.i2d 1000)) .g) ≤ 0
  rotate_left
  · rcases sm_rng (a := 7) (b := 8) (m := 7) (by decide) (by decide) o with g | ⟨g1, g2, g3⟩ | ⟨s, hs, -, g1, g2, g3⟩
    · exact (sm_t1 1 H (ct_Hall_acquire_t_5 ht m1 m2 f f2) (mx_Mod_acquire_t_1 ht g) (by decide) (by decide)).mono (by omega)
    · exact (sm_t1 1 H (ct_Hall_acquire_t_5 ht m1 m2 f f2) (mx_Mod_acquire_t_6 ht g1 g3) (by decide) (by decide)).mono (by omega)
    · exact (sm_t1 1 H (ct_Hall_acquire_t_5 ht m1 m2 f f2) (mx_Mod_acquire_t_4 ht g1 g3 m1 m3 (by rw [← fp_im1]; exact f) (by rw [← fp_i1000]; exact f2)) (by decide) (by decide)).mono (by omega)
  have f' : ¬ (Op.cmpValue (FP.dcmp y 13830554455654793216) .l) < 0 := by rw [← fp_im1]; exact f
  have f2' : (Op.cmpValue (FP.dcmp y 4652007308841189376) .g) ≤ 0 := by rw [← fp_i1000]; exact f2
  rcases sm_rng (a := 7) (b := 8) (m := 7) (by decide) (by decide) o with g | ⟨g1, g2, g3⟩ | ⟨s, hs, rfl, g1, g2, g3⟩
  · exact (sm_t1 1 H (ct_Hall_acquire_t_3 ht m1 m2 f f2 g) (mx_Mod_acquire_t_1 ht g) (by decide) (by decide)).mono (by omega)
  · exact (sm_t1 1 H (ct_Hall_acquire_t_4 ht m1 m2 f f2 g1 g2) (mx_Mod_acquire_t_6 ht g1 g3) (by decide) (by decide)).mono (by omega)
  have y1 := (H.2.1 s hs).1
  have y8 := (H.2.1 s hs).2.2.2.2.2.2.2.1
  rw [← y1] at y8
  rcases rl_place H ht with ⟨p5, i5, i1⟩ | ⟨b, hb, p5, -, i1, -⟩
  · rcases rl_kdcl y8 with ⟨e, hk, h0⟩ | ⟨hk, h0, e⟩ | ⟨hk, h0, e⟩ | ⟨hk, h0, e⟩ | ⟨hk, h0, e⟩ | ⟨hk, h0, e⟩ <;> rw [y1] at e h0
    · exact (sm_t1 2 H (ct_Hall_acquire_none_1 ht hs hk hm f f2) (mx_Mod_acquire_none_1 ht hs hm f' f2' h0) (by decide) (by decide)).mono (by omega)
    · rcases e with e | e
      · exact sm_acq_0 H ht hs hm f f2 hc p5 i5 i1 hk e
      · exact sm_acq_1 H ht hs hm f f2 hc p5 i5 i1 hk e
    · rcases e with e | e
      · exact sm_acq_2 H ht hs hm f f2 hc p5 i5 i1 hk e
      · exact sm_acq_3 H ht hs hm f f2 hc p5 i5 i1 hk e
    · exact sm_acq_4 H ht hs hm f f2 hc p5 i5 i1 hk e
    · exact sm_acq_5 H ht hs hm f f2 hc p5 i5 i1 hk e
    · exact (sm_t2 4 H (ct_Hall_acquire_Condition_1 ht hs hm f f2 p5 hk) (mx_Mod_acquire_r6_1 (l := R s) ht hs hm f' f2' e i1) (by decide) (by decide)).mono (by omega)
  · rcases rl_kdcl y8 with ⟨e, hk, h0⟩ | ⟨hk, h0, e⟩ | ⟨hk, h0, e⟩ | ⟨hk, h0, e⟩ | ⟨hk, h0, e⟩ | ⟨hk, h0, e⟩ <;> rw [y1] at h0
    · exact (sm_t1 2 H (ct_Hall_acquire_none_1 ht hs hk hm f f2) (mx_Mod_acquire_none_1 ht hs hm f' f2' h0) (by decide) (by decide)).mono (by omega)
    · exact (sm_t1 3 H (ct_Hall_acquire_Lockb_1 ht hs hm f f2 hb p5 hk) (mx_Mod_acquire_b_1 ht hs hm f' f2' h0 i1) (by decide) (by decide)).mono (by omega)
    · exact (sm_t1 3 H (ct_Hall_acquire_Semaphoreb_1 ht hs hm f f2 hb p5 hk) (mx_Mod_acquire_b_1 ht hs hm f' f2' h0 i1) (by decide) (by decide)).mono (by omega)
    · exact (sm_t1 3 H (ct_Hall_acquire_Latchb_1 ht hs hm f f2 hb p5 hk) (mx_Mod_acquire_b_1 ht hs hm f' f2' h0 i1) (by decide) (by decide)).mono (by omega)
    · exact (sm_t1 3 H (ct_Hall_acquire_Sharedb_1 ht hs hm f f2 hb p5 hk) (mx_Mod_acquire_b_1 ht hs hm f' f2' h0 i1) (by decide) (by decide)).mono (by omega)
    · exact (sm_t1 3 H (ct_Hall_acquire_Conditionb_1 ht hs hm f f2 hb p5 hk) (mx_Mod_acquire_b_1 ht hs hm f' f2' h0 i1) (by decide) (by decide)).mono (by omega)
end SME
