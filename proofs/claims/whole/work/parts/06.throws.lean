/-! the throw statement: new X; dup; ldc text; invokespecial X.<init>; athrow -/
/-- the constructors of the exceptions: their super's entry, their code -/
def sh_xi (k : Nat) : Nat := if k = 2 then 13 else 7
def sh_xb (k : Nat) : ByteArray := if k = 2 then ⟨#[0x2a, 0x2b, 0xb7, 0x00, 0x0d, 0xb1]⟩ else ⟨#[0x2a, 0x2b, 0xb7, 0x00, 0x07, 0xb1]⟩
theorem sh_xb0 (k : Nat) : decode (sh_xb k) 0 = .ok (.aload_n 0, 1) := by unfold sh_xb; split <;> decide +kernel
theorem sh_xb1 (k : Nat) : decode (sh_xb k) 1 = .ok (.aload_n 1, 1) := by unfold sh_xb; split <;> decide +kernel
theorem sh_xb2 (k : Nat) : decode (sh_xb k) 2 = .ok (.invokespecial (sh_xi k), 3) := by unfold sh_xb sh_xi; split <;> decide +kernel
theorem sh_xb5 (k : Nat) : decode (sh_xb k) 5 = .ok (.return_, 1) := by unfold sh_xb; split <;> decide +kernel
/-- an exception of kind k, thrown in the class own: new is entry ik, its constructor entry ic -/
def sh_LX (own : String) (k ik ic : Nat) : Prop :=
  Cond.classLink own ik (sh_xn k) ∈ sh_ws ∧ Cond.instantiable (sh_xn k) 6 ∈ sh_ws ∧ Cond.initialized (sh_xn k) ∈ sh_ws ∧ Bundle.fit (sh_xn k) = true ∧
  ∀ w ∈ (sh_own own ic (sh_xn k) (sh_xi k) (sh_xb k)).filter (fun w => !(decide (w = .isRef (.static "java/lang/Throwable" "UNASSIGNED_STACK" "[Ljava/lang/StackTraceElement;")) || decide (w = .isRef (.static "java/lang/Throwable" "SUPPRESSED_SENTINEL" "Ljava/util/List;")) || decide (w = .laysStatic "java/lang/Throwable" "UNASSIGNED_STACK" "[Ljava/lang/StackTraceElement;") || decide (w = .laysStatic "java/lang/Throwable" "SUPPRESSED_SENTINEL" "Ljava/util/List;"))), w ∈ sh_ws
theorem sh_atoms {own : String} {k ik ic : Nat} {l : Launch} {s : State} {b0 : Nat} {H0 : Heap} {args : Array Value} (h : sh_LX own k ik ic) (hkw : ∀ w ∈ sh_ws, ∀ args : Array Value, w.before args s = true) (hth : sh_Th l s b0 H0) : ∀ a ∈ sh_own own ic (sh_xn k) (sh_xi k) (sh_xb k), a.before args s = true := by
  intro w hw
  obtain ⟨-, h2, -, h4, h5, -⟩ := hth
  by_cases e1 : w = .isRef (.static "java/lang/Throwable" "UNASSIGNED_STACK" "[Ljava/lang/StackTraceElement;")
  · rw [e1]; exact h4.isRef h2
  by_cases e2 : w = .isRef (.static "java/lang/Throwable" "SUPPRESSED_SENTINEL" "Ljava/util/List;")
  · rw [e2]; exact h5.isRef h2
  by_cases e3 : w = .laysStatic "java/lang/Throwable" "UNASSIGNED_STACK" "[Ljava/lang/StackTraceElement;"
  · rw [e3]; exact h4.lays h2
  by_cases e4 : w = .laysStatic "java/lang/Throwable" "SUPPRESSED_SENTINEL" "Ljava/util/List;"
  · rw [e4]; exact h5.lays h2
  refine hkw w (h.2.2.2.2 w (List.mem_filter.mpr ⟨hw, ?_⟩)) args
  simp [e1, e2, e3, e4]
section SHY
variable {d : sh_Md} {pc : Nat} {lv : List (Nat × Value)} {st : List Value} {w : sh_Wd} {cs ss : Nat}
set_option maxHeartbeats 4000000 in
theorem sh_thr {k ik ix ic lx : Nat} {tx : String} (hd0 : decode d.2.1 pc = .ok (.new ik, 3)) (hd1 : decode d.2.1 (pc + 3) = .ok (.dup, 1)) (hd2 : decode d.2.1 (pc + 4) = .ok (.ldc ix, 2) ∧ lx = 2 ∨ decode d.2.1 (pc + 4) = .ok (.ldc_w ix, 3) ∧ lx = 3) (hd3 : decode d.2.1 (pc + 4 + lx) = .ok (.invokespecial ic, 3)) (hd4 : decode d.2.1 (pc + 4 + lx + 3) = .ok (.athrow, 1))
    (hX : sh_LX d.1.cls k ik ic) (hT : (d.1.cls, ix, tx) ∈ sh_str) (hno : d.2.2.2.2.2 = []) (hcs : cs + 1 ≤ d.2.2.2.2.1.cells) (hss : ss + 6 ≤ d.2.2.2.2.1.slots) (hfr : 5 < d.2.2.2.2.1.frames) (hlo : (st.map fun v => v.category).sum + 82 ≤ d.2.2.2.2.1.locals) :
    sh_V d (pc, lv, st) w cs ss (sh_E d (.inr (k, w.2))) := by
  intro p l e s m args below meth c D b0 H0 hF H locs ls hR hL hl
  obtain ⟨htr, hh0, hb0, hsf, -, hstr⟩ := id hF.th
  obtain ⟨q, hq⟩ := hstr _ hT
  intro T0 hT0 X0
  have hsz : s.heap.size ≤ H.size := by rw [← hT0]; exact X0.same.2.1
  have fin : ∀ (cC : ClassId) (kC : Class), s.vm.findClass (sh_xn k) = some cC → s.vm.classes[cC]? = some kC → W p l e d.2.2.2.2.1 s m args below meth c (H.push { cls := cC, slots := kC.instanceTypes.map defaultValue, vm := .none }) locs (cs + 1) (ss + 6) (sh_E d (.inr (k, w.2)) D b0 H0 below s args) (F0 m (pc + 4 + lx) ls (.ref q :: .ref H.size :: .ref H.size :: st)) := by
    intro cC kC h1 h2 T hT X
    have hmr : (F0 m (pc + 4 + lx) ls (.ref q :: .ref H.size :: .ref H.size :: st)).monitorRoom = 0 := rfl
    have hlow : ∀ z : Nat, z < H.size → T.heap[z]? = H[z]? := fun z hz => by rw [hT, Array.getElem?_push, if_neg (Nat.ne_of_lt hz)]
    have hbH : b0 ≤ H.size := by rw [hR.1]; exact hR.2.1
    obtain ⟨vm₂, ce, L, X₂, hLa, hcl, hvm, st2⟩ := sh_ctor (ix := sh_xi k) (bs := sh_xb k) X hF.1 ((show e.platform.stackTraces = l.stackTraces by rw [X.admits.platform]).trans htr) hF.own hX.2.2.2.1 (sh_xb0 k) (sh_xb1 k) (sh_xb2 k) (sh_xb5 k) (sh_atoms hX hF.kw hF.th) hsf
      (fun z hz => by rw [hlow z (by omega), hR.2.2.1 z hz, hh0 z hz]) (a := H.size) (cX := cC) (kX := kC) h1 h2 (by rw [hT]; simp) hsz (msg := .ref q) rfl (g := F0 m (pc + 4 + lx) ls (.ref q :: .ref H.size :: .ref H.size :: st)) rfl (by rw [hF.ml]; exact hl.1) (rest := st) rfl (by rw [hF.2.1]; exact hd3) hfr (by rw [hmr]; show 2 * 0 + (1 + (st.map fun v => v.category).sum) + 81 ≤ d.2.2.2.2.1.locals; omega)
    obtain ⟨hwalk, hrun, hended, hW, hsame⟩ := X₂.athrowLeaves hF.1 (g := F0 m (pc + 4 + lx + 3) ls (.ref H.size :: st)) rfl rfl rfl (by rw [hF.xt, hno]; intro y hy; cases hy) (a := H.size) (rest := st) rfl (by rw [hF.2.1]; exact hd4) hF.lk
    have hTs : T.heap.size = H.size + 1 := by rw [hT]; simp
    have hU : ∀ z : Nat, ((T.setVm vm₂).setCell H.size ce).heap[z]? = if z = H.size then some ce else T.heap[z]? := by
      intro z
      by_cases hz : z = H.size
      · subst hz
        rw [if_pos rfl]
        exact heapAt_setCell_self (s := T.setVm vm₂) ce (show H.size < T.heap.size by omega)
      · rw [if_neg hz]
        exact heapAt_setCell_ne (s := T.setVm vm₂) ce (fun h => hz h.symm)
    have hRep : sh_Rep D b0 H0 (H.size + 1, w.2) ((T.setVm vm₂).setCell H.size ce).heap := by
      refine ⟨?_, by show b0 ≤ H.size + 1; omega, fun z hz => ?_, fun z o ho => ?_⟩
      · rw [size_setCell]; exact hTs
      · rw [hU, if_neg (by omega), hlow z (by omega)]; exact hR.2.2.1 z hz
      · have h5 := hR.2.2.2 z o ho
        have h6 := h5.2.lt
        exact ⟨h5.1, h5.2.kept (by rw [hU, if_neg (by omega), hlow z h6])⟩
    refine ⟨_, st2 _ hwalk, .threw H.size, hrun, hended, ⟨H.size, H.size + 1, ce, rfl, hRep, ?_, by rw [hvm]; rfl, by rw [hcl]; exact h1⟩, hW, locs ++ L, hsame.mono hcs hss, ?_⟩
    · show ((T.setVm vm₂).setCell H.size ce).heap[H.size]? = some ce
      rw [hU, if_pos rfl]
    · intro z hz
      rcases List.mem_append.mp hz with h | h
      · exact hL z h
      · rw [hLa z h]; exact hbH
  suffices K : W p l e d.2.2.2.2.1 s m args below meth c H locs cs ss (sh_E d (.inr (k, w.2)) D b0 H0 below s args) (F0 m pc ls st) from K T0 hT0 X0
  refine W.newc hF.1 hF.2.1 hF.own (hF.kw _ hX.1 args) (hF.kw _ hX.2.1 args) (hF.kw _ hX.2.2.1 args) rfl hd0 hcs hss (fun cC kC h1 h2 h3 h4 => ?_)
  refine lv_dup hF.1 hF.2.1 (pc := pc + 3) hd1 rfl ?_
  rcases hd2 with ⟨hd2, rfl⟩ | ⟨hd2, rfl⟩
  · exact va_ldcS hF.1 hF.2.1 hF.own hq hd2 (fin cC kC h1 h2)
  · intro T hT X
    obtain ⟨t, a1, b1⟩ := fin cC kC h1 h2 T hT X
    exact ⟨t, X.ldcStringW hF.1 (own := d.1.cls) (text := tx) (index := ix) (a := q) hF.own hq.1 hq.2 (g := F0 m (pc + 3 + 1) ls (.ref H.size :: .ref H.size :: st)) rfl (by rw [hF.2.1]; exact hd2) _ a1, b1⟩
end SHY
