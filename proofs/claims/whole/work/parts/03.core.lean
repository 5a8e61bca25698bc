/-- the texts of the exceptions: class, entry, text -/
def sh_str : List (String × Nat × String) := [("SyncHall", 229, "a number out of range"), ("SyncHall", 238, "the sync is not there"), ("SyncHall", 241, "no lock is there"), ("SyncHall", 53, "the sync is there"), ("SyncHall", 232, "an amount out of range"), ("SyncHall", 234, "the thread is blocked"), ("SyncHall", 245, "a condition is not taken or given back"), ("SyncHall", 283, "the lock comes before one that is owned"), ("SyncHall$Shared", 27, "a reader can't become the writer"), ("SyncHall", 258, "the thread does not own the lock"), ("SyncHall$Semaphore", 27, "there are no more permits than these"), ("SyncHall$Shared", 66, "the thread does not read"), ("SyncHall$Shared", 69, "the thread is not the writer"), ("SyncHall", 252, "the sync is no condition"), ("SyncHall", 221, "nobody has waited")]
/-! THE JUDGEMENT sh_V: one whole heap, seen as a map from addresses to objects; a method ends by a return or by a throw. -/
/-- an object: is it an array; the number of its class (of its elements' type, for an array); its fields (its elements) -/
abbrev sh_Ob : Type := Bool × Nat × List Value
abbrev sh_Hp : Type := Nat → Option sh_Ob
/-- a world: the next address, and the objects -/
abbrev sh_Wd : Type := Nat × sh_Hp
/-- how a method ends: it returns with a value, or throws an exception of kind k -/
abbrev sh_Rs : Type := (Option Value × sh_Wd) ⊕ (Nat × sh_Hp)
/-- numbers of the run: of the classes, of their slots, of the array classes -/
abbrev sh_Dn : Type := (Nat → ClassId) × (Nat → Nat → Nat) × (Nat → ClassId)
/-- a method: name, code, locals, result, room, handlers -/
abbrev sh_Md : Type := MethodName × ByteArray × Nat × Option FieldType × Room × List (Nat × Nat × Nat × Nat)
/-- a frame: pc, locals, operand stack -/
abbrev sh_AF : Type := Nat × List (Nat × Value) × List Value
/-- what is to hold at the end -/
abbrev sh_Zt : Type := sh_Dn → Nat → Heap → List Frame → State → Array Value → State → Prop
def sh_up (h : sh_Hp) (q : Nat) (o : sh_Ob) : sh_Hp := fun j => if j = q then some o else h j
theorem sh_up_eq (h : sh_Hp) (q : Nat) (o : sh_Ob) : sh_up h q o q = some o := if_pos rfl
theorem sh_up_ne {h : sh_Hp} {q j : Nat} {o : sh_Ob} (hj : j ≠ q) : sh_up h q o j = h j := if_neg hj
theorem sh_up_up (h : sh_Hp) (q : Nat) (a b : sh_Ob) : sh_up (sh_up h q a) q b = sh_up h q b := by
  funext j
  by_cases hj : j = q <;> simp [sh_up, hj]
theorem sh_up_comm {h : sh_Hp} {q r : Nat} (a b : sh_Ob) (hqr : q ≠ r) : sh_up (sh_up h q a) r b = sh_up (sh_up h r b) q a := by
  funext j
  by_cases hj : j = q
  · subst hj
    simp [sh_up, hqr]
  · simp [sh_up, hj]
theorem sh_up_self {h : sh_Hp} {q : Nat} {o : sh_Ob} (hq : h q = some o) : sh_up h q o = h := by
  funext j
  by_cases hj : j = q
  · subst hj
    simp [sh_up, hq]
  · simp [sh_up, hj]
def sh_lvg (lv : List (Nat × Value)) (i : Nat) : Option Value := (lv.find? (fun q => q.1 == i)).map (·.2)
def sh_lvs1 (lv : List (Nat × Value)) (i : Nat) (v : Value) : List (Nat × Value) := (i, v) :: lv.filter (fun q => !(q.1 == i) && !(q.1 + 1 == i && q.2.category == 2))
def sh_lvs2 (lv : List (Nat × Value)) (i : Nat) (v : Value) : List (Nat × Value) := (i, v) :: lv.filter (fun q => !(q.1 == i) && (!(q.1 == i + 1) && !(q.1 + 1 == i && q.2.category == 2)))
theorem sh_lvg_mem {lv : List (Nat × Value)} {i : Nat} {v : Value} (h : sh_lvg lv i = some v) : (i, v) ∈ lv := by
  unfold sh_lvg at h
  cases hf : lv.find? (fun q => q.1 == i) with
  | none => rw [hf] at h; cases h
  | some q =>
    rw [hf] at h
    have h1 := List.mem_of_find?_eq_some hf
    have h2 : (q.1 == i) = true := by have := List.find?_some hf; simpa using this
    have h3 : q.1 = i := by simpa using h2
    have h4 : q.2 = v := Option.some.inj h
    have h5 : q = (i, v) := by rw [← h3, ← h4]
    rw [← h5]; exact h1
theorem sh_lvg_at {ls : Array Slot} {nL : Nat} {lv : List (Nat × Value)} {i : Nat} {v : Value} (hl : lv_has ls nL lv) (h : sh_lvg lv i = some v) : ls[i]? = some (.val v) := hl.2.2 (i, v) (sh_lvg_mem h)
theorem sh_lvg_ix {lv : List (Nat × Value)} {i : Nat} {v : Value} (h : sh_lvg lv i = some v) : ∃ j : Nat, lv[j]? = some (i, v) := List.getElem?_of_mem (sh_lvg_mem h)
/-- the heap holds the object -/
def sh_at (D : sh_Dn) (H : Heap) (q : Nat) (o : sh_Ob) : Prop := match o with
  | (true, ti, vs) => H[q]? = some (arrV (D.2.2 ti) vs.length (vp_V vs))
  | (false, ci, fs) => ∃ r : vw_C, vwCl[ci]? = some r ∧ fs.length = r.2.2 ∧ t_OB q (D.1 ci) r.2.2 (D.2.1 ci) H (vp_V fs)
theorem sh_at.kept {D : sh_Dn} {H H1 : Heap} {q : Nat} {o : sh_Ob} (h : sh_at D H q o) (hq : H1[q]? = H[q]?) : sh_at D H1 q o := by
  obtain ⟨b, ci, fs⟩ := o
  cases b with
  | true => exact hq.trans h
  | false =>
    obtain ⟨r, h1, h2, h3⟩ := h
    exact ⟨r, h1, h2, h3.kept hq⟩
theorem sh_at.lt {D : sh_Dn} {H : Heap} {q : Nat} {o : sh_Ob} (h : sh_at D H q o) : q < H.size := by
  obtain ⟨b, ci, fs⟩ := o
  cases b with
  | true => exact (Array.getElem?_eq_some_iff.mp h).1
  | false =>
    obtain ⟨r, h1, h2, cell, h3, -⟩ := h
    exact (Array.getElem?_eq_some_iff.mp h3).1
/-- the machine's heap is this world: below b0 it is H0, and the objects lie from b0 on -/
def sh_Rep (D : sh_Dn) (b0 : Nat) (H0 : Heap) (w : sh_Wd) (H : Heap) : Prop :=
  H.size = w.1 ∧ b0 ≤ w.1 ∧ (∀ q : Nat, q < b0 → H[q]? = H0[q]?) ∧ ∀ (q : Nat) (o : sh_Ob), w.2 q = some o → b0 ≤ q ∧ sh_at D H q o
theorem sh_Rep.set {D : sh_Dn} {b0 : Nat} {H0 H H1 : Heap} {w : sh_Wd} {a : Nat} {o o' : sh_Ob} (h : sh_Rep D b0 H0 w H) (ha : w.2 a = some o) (z : H1.size = H.size) (oq : ∀ q : Nat, q ≠ a → H1[q]? = H[q]?) (hn : sh_at D H1 a o') : sh_Rep D b0 H0 (w.1, sh_up w.2 a o') H1 := by
  obtain ⟨h1, h2, h3, h4⟩ := h
  have hb := (h4 a o ha).1
  refine ⟨z.trans h1, h2, fun q hq => (oq q (by omega)).trans (h3 q hq), fun q o2 hq => ?_⟩
  by_cases e : q = a
  · subst e
    have hq : sh_up _ _ _ _ = some o2 := hq
    rw [sh_up_eq] at hq
    cases hq
    exact ⟨hb, hn⟩
  · have hq : sh_up _ _ _ _ = some o2 := hq
    rw [sh_up_ne e] at hq
    exact ⟨(h4 q o2 hq).1, (h4 q o2 hq).2.kept (oq q e)⟩
theorem sh_Rep.push {D : sh_Dn} {b0 : Nat} {H0 H H1 : Heap} {w : sh_Wd} {o' : sh_Ob} (h : sh_Rep D b0 H0 w H) (z : H1.size = H.size + 1) (oq : ∀ q : Nat, q < H.size → H1[q]? = H[q]?) (hn : sh_at D H1 w.1 o') : sh_Rep D b0 H0 (w.1 + 1, sh_up w.2 w.1 o') H1 := by
  obtain ⟨h1, h2, h3, h4⟩ := h
  refine ⟨by rw [z, h1], by omega, fun q hq => (oq q (by omega)).trans (h3 q hq), fun q o2 hq => ?_⟩
  by_cases e : q = w.1
  · subst e
    have hq : sh_up _ _ _ _ = some o2 := hq
    rw [sh_up_eq] at hq
    cases hq
    exact ⟨h2, hn⟩
  · have hq : sh_up _ _ _ _ = some o2 := hq
    rw [sh_up_ne e] at hq
    have h5 := h4 q o2 hq
    exact ⟨h5.1, h5.2.kept (oq q h5.2.lt)⟩
/-- what the tables say: the words; the classes' numbers -/
def sh_Kw (s : State) : Prop := ∀ w ∈ sh_ws, ∀ args : Array Value, w.before args s = true
def sh_Kd (D : sh_Dn) (s : State) : Prop := (∀ (ci : Nat) (q : vw_C), vwCl[ci]? = some q → u_Kn s q.1 q.2.1 q.2.2 (D.1 ci) (D.2.1 ci)) ∧ ∀ (ti : Nat) (ty : FieldType), sh_ats[ti]? = some ty → ArrOfT s (D.2.2 ti) ty ∧ va_RA s (D.2.2 ti) ty
theorem sh_Kd.moved {D : sh_Dn} {u U : State} (hvm : u.vm.Alike U.vm) (h : sh_Kd D u) : sh_Kd D U := ⟨fun c q hq => u_Kn_moved hvm (h.1 c q hq), fun k q hk => ⟨arrOfT_moved hvm (h.2 k q hk).1, (h.2 k q hk).2.moved hvm⟩⟩
/-! classes: by the words of their fields -/
theorem sh_cls : ∀ r ∈ vwCl, (∀ k, k < r.2.2 → u_lay r.1 r.2.1 k ∈ lw_tbl ∧ sh_okw (u_lay r.1 r.2.1 k) = true) ∧ (∀ k, k < r.2.2 → (parseFieldDescriptor (r.2.1 k).2.2.1).isSome = true) ∧ ∀ a, a < r.2.2 → ∀ b, b < r.2.2 → a ≠ b → (r.2.1 a).2.1 ≠ (r.2.1 b).2.1 := by decide +kernel
theorem sh_clw {ci : Nat} {r : vw_C} (hc : vwCl[ci]? = some r) : ∀ w ∈ u_ws r.1 r.2.1 r.2.2, w ∈ sh_ws := by
  intro w hw
  obtain ⟨k, hk, rfl⟩ := List.mem_map.mp hw
  have h := (sh_cls r (List.mem_of_getElem? hc)).1 k (List.mem_range.mp hk)
  exact List.mem_filter.mpr ⟨List.mem_append_left _ h.1, h.2⟩
theorem sh_clt {ci : Nat} {r : vw_C} (hc : vwCl[ci]? = some r) : ∃ ty : Nat → FieldType, ∀ k, k < r.2.2 → parseFieldDescriptor (r.2.1 k).2.2.1 = some (ty k) := by
  refine ⟨fun k => (parseFieldDescriptor (r.2.1 k).2.2.1).getD .int, fun k hk => ?_⟩
  have h := (sh_cls r (List.mem_of_getElem? hc)).2.1 k hk
  cases hp : parseFieldDescriptor (r.2.1 k).2.2.1 with
  | none => rw [hp] at h; cases h
  | some t => show some t = some ((parseFieldDescriptor (r.2.1 k).2.2.1).getD .int); rw [hp]; rfl
theorem sh_cln {ci : Nat} {r : vw_C} (hc : vwCl[ci]? = some r) : ∀ a, a < r.2.2 → ∀ b, b < r.2.2 → a ≠ b → (r.2.1 a).2.1 ≠ (r.2.1 b).2.1 := (sh_cls r (List.mem_of_getElem? hc)).2.2
theorem sh_Kw.warm {s U : State} (h : sh_Kw s) (hW : s.WarmedH U.vm) : sh_Kw U := by
  intro w hw args
  have h1 := h w hw
  have ho : sh_okw w = true := (List.mem_filter.mp hw).2
  have gen : (w.onTables && w.keeps) = true → w.before args U = true := fun hk => word_at hW (Or.inl hk) (h1 #[])
  cases w with
  | fieldLinkNest a i b n d x => exact va_Nw.use rfl (va_Nw.warmF hW (h1 #[]))
  | methodLinkNest a i x y => exact va_Nw.use rfl (va_Nw.warmM hW (h1 #[]))
  | declares x => exact va_Nw.use rfl (va_Nw.warmD hW (h1 #[]))
  | castable a b => exact va_Nw.use rfl (va_Nw.warmC hW (h1 #[]))
  | arrayClass ty => exact word_at hW (Or.inr ⟨ty, rfl⟩) (h1 #[])
  | arrayOver ty =>
    cases ty with
    | object C => exact va_AO.use (va_AO.moved hW.alike (va_AO.of (h1 #[])))
    | _ => exact gen ho
  | not c =>
    cases c with
    | castable a b => exact Cond.castAtom_setVm (args := args) hW.alike (.not (.castable a b)) rfl (h1 args)
    | _ => exact gen ho
  | _ => exact gen ho
/-! what a throw needs: no traces; the two statics of Throwable; the texts -/
def sh_tn : String := "java/lang/Throwable"
def sh_Sf (n d : String) (s : State) (b0 : Nat) (H0 : Heap) : Prop := ∃ (c : ClassId) (k : Class) (i : Nat) (f : Field) (a : Nat) (cell : Cell) (v : Value), s.vm.findClass "java/lang/Throwable" = some c ∧ s.fieldFound? "java/lang/Throwable" n d = some (c, k, i, f) ∧ f.isStatic = true ∧ k.statics = some a ∧ H0[a]? = some cell ∧ cell.vm.isStatics = true ∧ cell.cls = c ∧ f.slot < cell.slots.size ∧ k.staticTypes[f.slot]? = some f.type ∧ cell.slots[f.slot]? = some v ∧ v.isRef = true ∧ a < b0
theorem sh_Sf.moved {n d : String} {u U : State} {b0 : Nat} {H0 : Heap} (hvm : u.vm.Alike U.vm) (h : sh_Sf n d u b0 H0) : sh_Sf n d U b0 H0 := by
  obtain ⟨c, k, i, f, a, cell, v, h1, h2, h3, h4, h5, h6, h7, h8, h9, h10⟩ := h
  obtain ⟨k', hi', he⟩ := State.fieldFound?_setVm hvm h2
  exact ⟨c, k', i, f, a, cell, v, by rw [hvm.findClass]; exact h1, hi', h3, by rw [he]; exact h4, h5, h6, h7, h8, by rw [he]; exact h9, h10⟩
theorem sh_Sf.lays {n d : String} {s : State} {b0 : Nat} {H0 : Heap} {args : Array Value} (h : sh_Sf n d s b0 H0) (hh : ∀ q : Nat, q < b0 → s.heap[q]? = H0[q]?) : (Cond.laysStatic "java/lang/Throwable" n d).before args s = true := by
  obtain ⟨c, k, i, f, a, cell, v, h1, h2, h3, h4, h5, h6, h7, h8, h9, h10, h11, h12⟩ := h
  exact Cond.laysStatic_of h1 h2 h3 h4 (by rw [hh a h12]; exact h5) h6 h7 h8 h9
theorem sh_Sf.isRef {n d : String} {s : State} {b0 : Nat} {H0 : Heap} {args : Array Value} (h : sh_Sf n d s b0 H0) (hh : ∀ q : Nat, q < b0 → s.heap[q]? = H0[q]?) : (Cond.isRef (.static "java/lang/Throwable" n d)).before args s = true := by
  obtain ⟨c, k, i, f, a, cell, v, h1, h2, h3, h4, h5, h6, h7, h8, h9, h10, h11, h12⟩ := h
  have h5' : s.heap[a]? = some cell := by rw [hh a h12]; exact h5
  have he : (Term.static "java/lang/Throwable" n d).eval args s none [] s = some v := by
    simp [Term.eval, State.fieldNamed?, h2, h3, h4, h5', h6, h10]
  simp only [Cond.before, Cond.holds, Cond.value, he]
  cases v <;> simp_all [Value.isRef]
def sh_Th (l : Launch) (s : State) (b0 : Nat) (H0 : Heap) : Prop :=
  l.stackTraces = false ∧ (∀ q : Nat, q < b0 → s.heap[q]? = H0[q]?) ∧ b0 ≤ s.heap.size ∧ sh_Sf "UNASSIGNED_STACK" "[Ljava/lang/StackTraceElement;" s b0 H0 ∧ sh_Sf "SUPPRESSED_SENTINEL" "Ljava/util/List;" s b0 H0 ∧ ∀ x ∈ sh_str, ∃ a : Nat, vk_R x.1 x.2.1 x.2.2 a s
theorem sh_Th.moved {l : Launch} {s U : State} {b0 : Nat} {H0 : Heap} {D : sh_Dn} {w : sh_Wd} (h : sh_Th l s b0 H0) (hW : s.WarmedH U.vm) (hR : sh_Rep D b0 H0 w U.heap) : sh_Th l U b0 H0 := by
  obtain ⟨h1, h2, h3, h4, h5, h6⟩ := h
  exact ⟨h1, hR.2.2.1, by rw [hR.1]; exact hR.2.1, h4.moved hW.alike, h5.moved hW.alike, fun x hx => (h6 x hx).imp fun a ha => vk_R.warm hW ha⟩
/-- the exceptions, by their kinds -/
def sh_xn : Nat → String
  | 1 => "java/lang/IllegalArgumentException"
  | 2 => "java/util/NoSuchElementException"
  | 3 => "java/lang/IllegalStateException"
  | 4 => "java/lang/UnsupportedOperationException"
  | _ => "java/lang/ArithmeticException"
/-- what is known of the method that runs, and of the run -/
def sh_Fit (d : sh_Md) (p : Program) (l : Launch) (e : Env) (s : State) (m : MethodId) (meth : Method) (c : Code) (D : sh_Dn) (b0 : Nat) (H0 : Heap) : Prop :=
  p.tables.exec = Jvm.exec ∧ c.code = d.2.1 ∧ c.maxLocals = d.2.2.1 ∧ meth.sig.returnType = d.2.2.2.1 ∧ meth.locks = false ∧ s.vm.findClass d.1.cls = some m.cls ∧ meth.name = d.1.name ∧ c.exceptionTable.toList = tableOf d.2.2.2.2.2 ∧ sh_Kw s ∧ sh_Kd D s ∧ sh_Th l s b0 H0
section SHF
variable {d : sh_Md} {p : Program} {l : Launch} {e : Env} {s : State} {m : MethodId} {meth : Method} {c : Code} {D : sh_Dn} {b0 : Nat} {H0 : Heap}
theorem sh_Fit.ml (h : sh_Fit d p l e s m meth c D b0 H0) : c.maxLocals = d.2.2.1 := h.2.2.1
theorem sh_Fit.ret (h : sh_Fit d p l e s m meth c D b0 H0) : meth.sig.returnType = d.2.2.2.1 := h.2.2.2.1
theorem sh_Fit.lk (h : sh_Fit d p l e s m meth c D b0 H0) : meth.locks = false := h.2.2.2.2.1
theorem sh_Fit.own (h : sh_Fit d p l e s m meth c D b0 H0) : s.vm.findClass d.1.cls = some m.cls := h.2.2.2.2.2.1
theorem sh_Fit.nm (h : sh_Fit d p l e s m meth c D b0 H0) : meth.name = d.1.name := h.2.2.2.2.2.2.1
theorem sh_Fit.xt (h : sh_Fit d p l e s m meth c D b0 H0) : c.exceptionTable.toList = tableOf d.2.2.2.2.2 := h.2.2.2.2.2.2.2.1
theorem sh_Fit.kw (h : sh_Fit d p l e s m meth c D b0 H0) : sh_Kw s := h.2.2.2.2.2.2.2.2.1
theorem sh_Fit.kd (h : sh_Fit d p l e s m meth c D b0 H0) : sh_Kd D s := h.2.2.2.2.2.2.2.2.2.1
theorem sh_Fit.th (h : sh_Fit d p l e s m meth c D b0 H0) : sh_Th l s b0 H0 := h.2.2.2.2.2.2.2.2.2.2
end SHF
/-- THE JUDGEMENT: method d at this frame in this world, with cs cells and ss slots made so far, comes to Z -/
def sh_V (d : sh_Md) (f : sh_AF) (w : sh_Wd) (cs ss : Nat) (Z : sh_Zt) : Prop :=
  ∀ (p : Program) (l : Launch) (e : Env) (s : State) (m : MethodId) (args : Array Value) (below : List Frame) (meth : Method) (c : Code) (D : sh_Dn) (b0 : Nat) (H0 : Heap), sh_Fit d p l e s m meth c D b0 H0 → ∀ (H : Heap) (locs : List Loc) (ls : Array Slot), sh_Rep D b0 H0 w H → (∀ q ∈ locs, b0 ≤ q.base) → lv_has ls d.2.2.1 f.2.1 →
    W p l e d.2.2.2.2.1 s m args below meth c H locs cs ss (Z D b0 H0 below s args) (F0 m f.1 ls f.2.2)
theorem sh_locs {b0 : Nat} {locs : List Loc} {a i : Nat} (h : ∀ q ∈ locs, b0 ≤ q.base) (ha : b0 ≤ a) : ∀ q ∈ locs ++ [(⟨a, i⟩ : Loc)], b0 ≤ q.base := by
  intro q hq
  rcases List.mem_append.mp hq with h1 | h1
  · exact h q h1
  · rw [List.mem_singleton.mp h1]; exact ha
theorem sh_mono {p : Program} {l : Launch} {e : Env} {R : Room} {s : State} {m : MethodId} {args : Array Value} {below : List Frame} {meth : Method} {c : Code} {H : Heap} {locs : List Loc} {cells slots : Nat} {Q Q' : State → Prop} {g : JFrame} (h : ∀ t, Q t → Q' t) (k : W p l e R s m args below meth c H locs cells slots Q g) : W p l e R s m args below meth c H locs cells slots Q' g := by
  intro T hT X
  obtain ⟨t, a, b⟩ := k T hT X
  exact ⟨t, a, h t b⟩
/-- fewer locals known, other order -/
theorem sh_lvsub {d : sh_Md} {pc : Nat} {lv lv' : List (Nat × Value)} {st : List Value} {w : sh_Wd} {cs ss : Nat} {Z : sh_Zt} (ks : List Nat) (h : lv_pick lv ks = lv') (k : sh_V d (pc, lv', st) w cs ss Z) : sh_V d (pc, lv, st) w cs ss Z :=
  fun p l e s m args below meth c D b0 H0 hF H locs ls hR hL hl => k p l e s m args below meth c D b0 H0 hF H locs ls hR hL (lv_sub hl ks h)
theorem sh_widen {d : sh_Md} {f : sh_AF} {w : sh_Wd} {cs ss cs' ss' : Nat} {Z : sh_Zt} (h1 : cs ≤ cs') (h2 : ss ≤ ss') (k : sh_V d f w cs' ss' Z) : sh_V d f w cs ss Z :=
  fun p l e s m args below meth c D b0 H0 hF H locs ls hR hL hl => W.widen h1 h2 (k p l e s m args below meth c D b0 H0 hF H locs ls hR hL hl)
/-! reading and writing -/
/-- the entry idx of own's pool links to the field nm : ds that ow declares -/
def sh_FL (own : String) (idx : Nat) (ow nm ds : String) : Prop :=
  (∃ ref, Cond.fieldLink own idx ref nm ds ∈ sh_ws ∧ (ref = ow ∨ Cond.sameField ref ow nm ds ∈ sh_ws)) ∨ ∃ ref host, Cond.fieldLinkNest own idx ref nm ds host ∈ sh_ws ∧ (ref = ow ∨ Cond.sameField ref ow nm ds ∈ sh_ws)
section SHM
variable {d : sh_Md} {pc : Nat} {lv : List (Nat × Value)} {st : List Value} {w : sh_Wd} {cs ss : Nat} {Z : sh_Zt}
theorem sh_get {index q ci k : Nat} {fs : List Value} {v : Value} {r : vw_C} (hd : decode d.2.1 pc = .ok (.getfield index, 3)) (hq : w.2 q = some (false, ci, fs)) (hc : vwCl[ci]? = some r) (hk : k < r.2.2) (hf : sh_FL d.1.cls index (r.2.1 k).1 (r.2.1 k).2.1 (r.2.1 k).2.2.1) (hv : fs[k]? = some v)
    (kk : sh_V d (pc + 3, lv, v :: st) w cs ss Z) : sh_V d (pc, lv, .ref q :: st) w cs ss Z := by
  intro p l e s m args below meth c D b0 H0 hF H locs ls hR hL hl
  have kk' := kk p l e s m args below meth c D b0 H0 hF H locs ls hR hL hl
  obtain ⟨hb, r', h1, h2, cell, q1, q2, q3, q4⟩ := hR.2.2.2 q _ hq
  cases hc.symm.trans h1
  obtain ⟨hS, hfc, kC, hkC, hkind⟩ := hF.kd.1 ci _ hc
  obtain ⟨cf, kf, fi, f, hi, hsl⟩ := hS k hk
  have hst := (u_facts hfc hkC (u_lays (ws := sh_ws) (args := args) (fun w hw => hF.kw w hw args) (sh_clw hc) hk) hi).1
  have hslot : cell.slots[f.slot]? = some v := by rw [hsl, q4 k hk]; simp [vp_V, hv]
  rcases hf with ⟨ref, hw, hs⟩ | ⟨ref, host, hw, hs⟩
  · have hi' : s.fieldFound? ref (r.2.1 k).2.1 (r.2.1 k).2.2.1 = some (cf, kf, fi, f) := by
      rcases hs with rfl | hs
      · exact hi
      · exact u_same (hF.kw _ hs args) _ hi
    exact W.getf hF.1 hF.2.1 hF.own (hF.kw _ hw args) hi' hst q1 (by rw [q3]; exact fun h => by cases h) hslot rfl rfl hd kk'
  · have hi' : s.fieldFound? ref (r.2.1 k).2.1 (r.2.1 k).2.2.1 = some (cf, kf, fi, f) := by
      rcases hs with rfl | hs
      · exact hi
      · exact u_same (hF.kw _ hs args) _ hi
    exact va_Wgetf hF.1 hF.2.1 hF.own (hF.kw _ hw args) hi' hst q1 (by rw [q3]; exact fun h => by cases h) hslot rfl rfl hd kk'
theorem sh_put {index q ci k : Nat} {fs : List Value} {v : Value} {r : vw_C} {ty : FieldType} (hd : decode d.2.1 pc = .ok (.putfield index, 3)) (hq : w.2 q = some (false, ci, fs)) (hc : vwCl[ci]? = some r) (hk : k < r.2.2) (hf : sh_FL d.1.cls index (r.2.1 k).1 (r.2.1 k).2.1 (r.2.1 k).2.2.1) (hfin : (r.2.1 k).2.2.2 = false) (hty : parseFieldDescriptor (r.2.1 k).2.2.1 = some ty) (hn : narrow ty v = v) (hft : fits ty v = true)
    (kk : sh_V d (pc + 3, lv, st) (w.1, sh_up w.2 q (false, ci, fs.set k v)) cs ss Z) : sh_V d (pc, lv, v :: .ref q :: st) w cs ss Z := by
  intro p l e s m args below meth c D b0 H0 hF H locs ls hR hL hl
  obtain ⟨hb, r', h1, h2, cell, q1, q2, q3, q4⟩ := hR.2.2.2 q _ hq
  cases hc.symm.trans h1
  have hK : va_K (D.1, D.2.1) vwCl [] s := ⟨hF.kd.1, fun k q h => by simp at h⟩
  have hts : ∀ w ∈ sh_ws, w.before args s = true := fun w hw => hF.kw w hw args
  obtain ⟨tyf, htyf⟩ := sh_clt hc
  have hap : ∀ x y, x < r.2.2 → y < r.2.2 → x ≠ y → D.2.1 ci x ≠ D.2.1 ci y := va_apart (own := d.1.cls) hts (sh_clw hc) tyf htyf (sh_cln hc) hK hc
  obtain ⟨hS, hfc, kC, hkC, hkind⟩ := hF.kd.1 ci _ hc
  obtain ⟨cf, kf, fi, f, hi, hsl⟩ := hS k hk
  have hst := (u_facts hfc hkC (u_lays hts (sh_clw hc) hk) hi).1
  have hlay := hts _ (sh_clw hc _ (u_in_lay hk))
  unfold u_lay at hlay
  rw [if_neg (by rw [hfin]; decide)] at hlay
  have h6 := u_store hfc hkC hkind hlay hi hty hn hft
  have hlen : k < fs.length := by rw [h2]; exact hk
  have fin : ∀ H' : Heap, H'[q]? = some (cell.setSlot f.slot v) → H'.size = H.size → (∀ q2 : Nat, q2 ≠ q → H'[q2]? = H[q2]?) → W p l e d.2.2.2.2.1 s m args below meth c H' (locs ++ [⟨q, f.slot⟩]) cs ss (Z D b0 H0 below s args) (F0 m (pc + 3) ls st) := by
    intro H' e1 e2 e3
    rw [hsl] at e1 ⊢
    exact kk p l e s m args below meth c D b0 H0 hF H' _ ls (hR.set hq e2 e3 ⟨r, hc, by rw [List.length_set]; exact h2, t_OB.to (V := updV (vp_V fs) k v) ⟨_, e1, q2, q3, t_set q4 hap hk v⟩ (fun j _ => vp_updV_set hlen v j)⟩) (sh_locs hL hb) hl
  rcases hf with ⟨ref, hw, hs⟩ | ⟨ref, host, hw, hs⟩
  · have hi' : s.fieldFound? ref (r.2.1 k).2.1 (r.2.1 k).2.2.1 = some (cf, kf, fi, f) := by
      rcases hs with rfl | hs
      · exact hi
      · exact u_same (hF.kw _ hs args) _ hi
    exact W.putK hF.1 hF.2.1 (f := f) ⟨hF.own, hF.kw _ hw args, ⟨_, _, _, hi'⟩, hst⟩ (by rw [q2]; exact h6) q1 q3 (by rw [hsl]; exact k2_hasslot (q4 k hk)) rfl rfl hd fin
  · have hi' : s.fieldFound? ref (r.2.1 k).2.1 (r.2.1 k).2.2.1 = some (cf, kf, fi, f) := by
      rcases hs with rfl | hs
      · exact hi
      · exact u_same (hF.kw _ hs args) _ hi
    exact va_WputK hF.1 hF.2.1 (f := f) hF.own (hF.kw _ hw args) hi' hst (by rw [q2]; exact h6) q1 q3 (by rw [hsl]; exact k2_hasslot (q4 k hk)) rfl rfl hd fin
/-- a final field, in a constructor of the class that declares it -/
theorem sh_putF {index q ci k : Nat} {fs : List Value} {v : Value} {r : vw_C} {ty : FieldType} (hd : decode d.2.1 pc = .ok (.putfield index, 3)) (hq : w.2 q = some (false, ci, fs)) (hc : vwCl[ci]? = some r) (hk : k < r.2.2) (hw : Cond.fieldLink d.1.cls index d.1.cls (r.2.1 k).2.1 (r.2.1 k).2.2.1 ∈ sh_ws) (hdc : (r.2.1 k).1 = d.1.cls) (hin : d.1.name = "<init>") (hfin : (r.2.1 k).2.2.2 = true) (hty : parseFieldDescriptor (r.2.1 k).2.2.1 = some ty) (hn : narrow ty v = v) (hft : fits ty v = true)
    (kk : sh_V d (pc + 3, lv, st) (w.1, sh_up w.2 q (false, ci, fs.set k v)) cs ss Z) : sh_V d (pc, lv, v :: .ref q :: st) w cs ss Z := by
  intro p l e s m args below meth c D b0 H0 hF H locs ls hR hL hl
  obtain ⟨hb, r', h1, h2, cell, q1, q2, q3, q4⟩ := hR.2.2.2 q _ hq
  cases hc.symm.trans h1
  have hK : va_K (D.1, D.2.1) vwCl [] s := ⟨hF.kd.1, fun k q h => by simp at h⟩
  have hts : ∀ w ∈ sh_ws, w.before args s = true := fun w hw => hF.kw w hw args
  obtain ⟨tyf, htyf⟩ := sh_clt hc
  have hap : ∀ x y, x < r.2.2 → y < r.2.2 → x ≠ y → D.2.1 ci x ≠ D.2.1 ci y := va_apart (own := d.1.cls) hts (sh_clw hc) tyf htyf (sh_cln hc) hK hc
  obtain ⟨hS, hfc, kC, hkC, hkind⟩ := hF.kd.1 ci _ hc
  obtain ⟨cf, kf, fi, f, hi, hsl⟩ := hS k hk
  have hst := (u_facts hfc hkC (u_lays hts (sh_clw hc) hk) hi).1
  have hlay := hts _ (sh_clw hc _ (u_in_lay hk))
  unfold u_lay at hlay
  rw [if_pos hfin] at hlay
  have hcf : m.cls = cf := by
    obtain ⟨_, _, c', _, _, _, -, -, hf', -, -, -, hown2, -⟩ := Cond.laysFinal_spec hlay
    have e1 : c' = cf := by have := hi.symm.trans hf'; simp at this; exact this.1.symm
    rw [hdc] at hown2
    rw [← e1]; exact Option.some.inj (hF.own.symm.trans hown2)
  have h6 := u_fits hfc hkC hkind (Or.inr hlay) hi hty hn hft
  have hlen : k < fs.length := by rw [h2]; exact hk
  refine W.putFinK hF.1 hF.2.1 hF.own (hF.kw _ hw args) (by rw [← hdc]; exact hi) hst hcf (hF.nm.trans hin) (by rw [q2]; exact h6) q1 q3 (by rw [hsl]; exact k2_hasslot (q4 k hk)) rfl rfl hd fun H' e1 e2 e3 => ?_
  rw [hsl] at e1 ⊢
  exact kk p l e s m args below meth c D b0 H0 hF H' _ ls (hR.set hq e2 e3 ⟨r, hc, by rw [List.length_set]; exact h2, t_OB.to (V := updV (vp_V fs) k v) ⟨_, e1, q2, q3, t_set q4 hap hk v⟩ (fun j _ => vp_updV_set hlen v j)⟩) (sh_locs hL hb) hl
theorem sh_new {index ci : Nat} {fs : List Value} {r : vw_C} {ty : Nat → FieldType} (hd : decode d.2.1 pc = .ok (.new index, 3)) (hc : vwCl[ci]? = some r) (hl1 : Cond.classLink d.1.cls index r.1 ∈ sh_ws) (hl2 : Cond.instantiable r.1 r.2.2 ∈ sh_ws) (hl3 : Cond.initialized r.1 ∈ sh_ws) (hty : ∀ k, k < r.2.2 → parseFieldDescriptor (r.2.1 k).2.2.1 = some (ty k)) (hfl : fs.length = r.2.2) (hfs : ∀ j, j < r.2.2 → defaultValue (ty j) = vp_V fs j) (hcs : cs + 1 ≤ d.2.2.2.2.1.cells) (hss : ss + r.2.2 ≤ d.2.2.2.2.1.slots)
    (kk : sh_V d (pc + 3, lv, .ref w.1 :: st) (w.1 + 1, sh_up w.2 w.1 (false, ci, fs)) (cs + 1) (ss + r.2.2) Z) : sh_V d (pc, lv, st) w cs ss Z := by
  intro p l e s m args below meth c D b0 H0 hF H locs ls hR hL hl
  have hKn := hF.kd.1 ci _ hc
  have hts : ∀ w ∈ sh_ws, w.before args s = true := fun w hw => hF.kw w hw args
  refine W.newcK hF.1 hF.2.1 hF.own (hF.kw _ hl1 args) (hF.kw _ hl2 args) (hF.kw _ hl3 args) rfl hd hcs hss hKn.2.1 hR.1 fun H1 kC hkC e1 z1 o1 => ?_
  exact kk p l e s m args below meth c D b0 H0 hF H1 locs ls (hR.push (by rw [z1, hR.1]) (fun q hq => o1 q (by rw [← hR.1]; exact hq)) ⟨r, hc, hfl, (u_born ty hts (sh_clw hc) hKn hkC e1 hty).to hfs⟩) hL hl
/-! arrays -/
theorem sh_arrV {cA : ClassId} {n : Nat} {f g : Nat → Value} (h : ∀ j, j < n → f j = g j) : arrV cA n f = arrV cA n g := by
  unfold arrV
  congr 2
  funext j
  exact h j.1 j.2
theorem sh_in {i : Int32} {cA : ClassId} {vs : List Value} {v : Value} (h0 : ¬ i < 0) (hv : vs[i.toNatClampNeg]? = some v) : ¬ (i < 0 ∨ (arrV cA vs.length (vp_V vs)).slots.size ≤ i.toNatClampNeg) := by
  rw [arrV_size]
  have h1 := (List.getElem?_eq_some_iff.mp hv).1
  intro h
  rcases h with h | h
  · exact h0 h
  · omega
theorem sh_el {cA : ClassId} {vs : List Value} {j : Nat} {v : Value} (hv : vs[j]? = some v) : (arrV cA vs.length (vp_V vs)).slots[j]? = some v := by
  rw [arrV_read _ _ (List.getElem?_eq_some_iff.mp hv).1]
  simp [vp_V, hv]
theorem sh_iald {q ti : Nat} {vs : List Value} {v : Value} {i : Int32} (hd : decode d.2.1 pc = .ok (.iaload, 1)) (hq : w.2 q = some (true, ti, vs)) (ht : sh_ats[ti]? = some .int) (h0 : ¬ i < 0) (hv : vs[i.toNatClampNeg]? = some v)
    (kk : sh_V d (pc + 1, lv, v :: st) w cs ss Z) : sh_V d (pc, lv, .int i :: .ref q :: st) w cs ss Z := by
  intro p l e s m args below meth c D b0 H0 hF H locs ls hR hL hl
  exact W.iald hF.1 hF.2.1 (hR.2.2.2 q _ hq).2 ((hF.kd.2 ti _ ht).1 _ _) (fun h => by cases h) (sh_in h0 hv) (sh_el hv) rfl rfl hd (kk p l e s m args below meth c D b0 H0 hF H locs ls hR hL hl)
theorem sh_lald {q ti : Nat} {vs : List Value} {v : Value} {i : Int32} (hd : decode d.2.1 pc = .ok (.laload, 1)) (hq : w.2 q = some (true, ti, vs)) (ht : sh_ats[ti]? = some .long) (h0 : ¬ i < 0) (hv : vs[i.toNatClampNeg]? = some v)
    (kk : sh_V d (pc + 1, lv, v :: st) w cs ss Z) : sh_V d (pc, lv, .int i :: .ref q :: st) w cs ss Z := by
  intro p l e s m args below meth c D b0 H0 hF H locs ls hR hL hl
  exact W.lald hF.1 hF.2.1 (hR.2.2.2 q _ hq).2 ((hF.kd.2 ti _ ht).1 _ _) (fun h => by cases h) (sh_in h0 hv) (sh_el hv) rfl rfl hd (kk p l e s m args below meth c D b0 H0 hF H locs ls hR hL hl)
theorem sh_dald {q ti : Nat} {vs : List Value} {v : Value} {i : Int32} (hd : decode d.2.1 pc = .ok (.daload, 1)) (hq : w.2 q = some (true, ti, vs)) (ht : sh_ats[ti]? = some .double) (h0 : ¬ i < 0) (hv : vs[i.toNatClampNeg]? = some v)
    (kk : sh_V d (pc + 1, lv, v :: st) w cs ss Z) : sh_V d (pc, lv, .int i :: .ref q :: st) w cs ss Z := by
  intro p l e s m args below meth c D b0 H0 hF H locs ls hR hL hl
  exact W.dald hF.1 hF.2.1 (hR.2.2.2 q _ hq).2 ((hF.kd.2 ti _ ht).1 _ _) (fun h => by cases h) (sh_in h0 hv) (sh_el hv) rfl rfl hd (kk p l e s m args below meth c D b0 H0 hF H locs ls hR hL hl)
theorem sh_zald {q ti : Nat} {vs : List Value} {v : Value} {i : Int32} (hd : decode d.2.1 pc = .ok (.baload, 1)) (hq : w.2 q = some (true, ti, vs)) (ht : sh_ats[ti]? = some .boolean) (h0 : ¬ i < 0) (hv : vs[i.toNatClampNeg]? = some v)
    (kk : sh_V d (pc + 1, lv, v :: st) w cs ss Z) : sh_V d (pc, lv, .int i :: .ref q :: st) w cs ss Z := by
  intro p l e s m args below meth c D b0 H0 hF H locs ls hR hL hl
  exact W.zald hF.1 hF.2.1 (hR.2.2.2 q _ hq).2 ((hF.kd.2 ti _ ht).1 _ _) (fun h => by cases h) (sh_in h0 hv) (sh_el hv) rfl rfl hd (kk p l e s m args below meth c D b0 H0 hF H locs ls hR hL hl)
theorem sh_aald {q ti : Nat} {vs : List Value} {v : Value} {i : Int32} {C : String} (hd : decode d.2.1 pc = .ok (.aaload, 1)) (hq : w.2 q = some (true, ti, vs)) (ht : sh_ats[ti]? = some (.object C)) (h0 : ¬ i < 0) (hv : vs[i.toNatClampNeg]? = some v)
    (kk : sh_V d (pc + 1, lv, v :: st) w cs ss Z) : sh_V d (pc, lv, .int i :: .ref q :: st) w cs ss Z := by
  intro p l e s m args below meth c D b0 H0 hF H locs ls hR hL hl
  exact W.aald hF.1 hF.2.1 (hR.2.2.2 q _ hq).2 ((hF.kd.2 ti _ ht).1 _ _) rfl (fun h => by cases h) (sh_in h0 hv) (sh_el hv) rfl rfl hd (kk p l e s m args below meth c D b0 H0 hF H locs ls hR hL hl)
theorem sh_alen {q ti : Nat} {vs : List Value} {ty : FieldType} (hd : decode d.2.1 pc = .ok (.arraylength, 1)) (hq : w.2 q = some (true, ti, vs)) (ht : sh_ats[ti]? = some ty)
    (kk : sh_V d (pc + 1, lv, .int (Int32.ofNat vs.length) :: st) w cs ss Z) : sh_V d (pc, lv, .ref q :: st) w cs ss Z := by
  intro p l e s m args below meth c D b0 H0 hF H locs ls hR hL hl
  exact W.alen (n := Int32.ofNat vs.length) hF.1 hF.2.1 (hR.2.2.2 q _ hq).2 ((hF.kd.2 ti _ ht).1 _ _) (by rw [arrV_size] <;> rfl) rfl rfl hd (kk p l e s m args below meth c D b0 H0 hF H locs ls hR hL hl)
theorem sh_stored {cA : ClassId} {vs : List Value} {j : Nat} {v x : Value} (hv : vs[j]? = some v) : (arrV cA vs.length (vp_V vs)).setSlot j x = arrV cA (vs.set j x).length (vp_V (vs.set j x)) := by
  rw [arrV_store, List.length_set]
  exact sh_arrV (fun i _ => vp_updV_set (List.getElem?_eq_some_iff.mp hv).1 x i)
theorem sh_iast {q ti : Nat} {vs : List Value} {v : Value} {i x : Int32} (hd : decode d.2.1 pc = .ok (.iastore, 1)) (hq : w.2 q = some (true, ti, vs)) (ht : sh_ats[ti]? = some .int) (h0 : ¬ i < 0) (hv : vs[i.toNatClampNeg]? = some v)
    (kk : sh_V d (pc + 1, lv, st) (w.1, sh_up w.2 q (true, ti, vs.set i.toNatClampNeg (.int x))) cs ss Z) : sh_V d (pc, lv, .int x :: .int i :: .ref q :: st) w cs ss Z := by
  intro p l e s m args below meth c D b0 H0 hF H locs ls hR hL hl
  have h3 := hR.2.2.2 q _ hq
  refine W.iast hF.1 hF.2.1 h3.2 ((hF.kd.2 ti _ ht).1 _ _) (fun h => by cases h) (sh_in h0 hv) rfl rfl hd fun H1 e1 z oq => ?_
  exact kk p l e s m args below meth c D b0 H0 hF H1 _ ls (hR.set hq z oq (e1.trans (congrArg some (sh_stored hv)))) (sh_locs hL h3.1) hl
theorem sh_last {q ti : Nat} {vs : List Value} {v : Value} {i : Int32} {x : Int64} (hd : decode d.2.1 pc = .ok (.lastore, 1)) (hq : w.2 q = some (true, ti, vs)) (ht : sh_ats[ti]? = some .long) (h0 : ¬ i < 0) (hv : vs[i.toNatClampNeg]? = some v)
    (kk : sh_V d (pc + 1, lv, st) (w.1, sh_up w.2 q (true, ti, vs.set i.toNatClampNeg (.long x))) cs ss Z) : sh_V d (pc, lv, .long x :: .int i :: .ref q :: st) w cs ss Z := by
  intro p l e s m args below meth c D b0 H0 hF H locs ls hR hL hl
  have h3 := hR.2.2.2 q _ hq
  refine W.last hF.1 hF.2.1 h3.2 ((hF.kd.2 ti _ ht).1 _ _) (fun h => by cases h) (sh_in h0 hv) rfl rfl hd fun H1 e1 z oq => ?_
  exact kk p l e s m args below meth c D b0 H0 hF H1 _ ls (hR.set hq z oq (e1.trans (congrArg some (sh_stored hv)))) (sh_locs hL h3.1) hl
theorem sh_dast {q ti : Nat} {vs : List Value} {v : Value} {i : Int32} {x : UInt64} (hd : decode d.2.1 pc = .ok (.dastore, 1)) (hq : w.2 q = some (true, ti, vs)) (ht : sh_ats[ti]? = some .double) (h0 : ¬ i < 0) (hv : vs[i.toNatClampNeg]? = some v)
    (kk : sh_V d (pc + 1, lv, st) (w.1, sh_up w.2 q (true, ti, vs.set i.toNatClampNeg (.double x))) cs ss Z) : sh_V d (pc, lv, .double x :: .int i :: .ref q :: st) w cs ss Z := by
  intro p l e s m args below meth c D b0 H0 hF H locs ls hR hL hl
  have h3 := hR.2.2.2 q _ hq
  refine W.dast hF.1 hF.2.1 h3.2 ((hF.kd.2 ti _ ht).1 _ _) (fun h => by cases h) (sh_in h0 hv) rfl rfl hd fun H1 e1 z oq => ?_
  exact kk p l e s m args below meth c D b0 H0 hF H1 _ ls (hR.set hq z oq (e1.trans (congrArg some (sh_stored hv)))) (sh_locs hL h3.1) hl
theorem sh_aast {q ti x ci : Nat} {vs fs : List Value} {v : Value} {i : Int32} {C : String} {r : vw_C} (hd : decode d.2.1 pc = .ok (.aastore, 1)) (hq : w.2 q = some (true, ti, vs)) (ht : sh_ats[ti]? = some (.object C)) (h0 : ¬ i < 0) (hv : vs[i.toNatClampNeg]? = some v) (hx : w.2 x = some (false, ci, fs)) (hc : vwCl[ci]? = some r) (hcast : r.1 = C ∨ Cond.castable r.1 C ∈ sh_ws)
    (kk : sh_V d (pc + 1, lv, st) (w.1, sh_up w.2 q (true, ti, vs.set i.toNatClampNeg (.ref x))) cs ss Z) : sh_V d (pc, lv, .ref x :: .int i :: .ref q :: st) w cs ss Z := by
  intro p l e s m args below meth c D b0 H0 hF H locs ls hR hL hl
  have h3 := hR.2.2.2 q _ hq
  obtain ⟨-, r', h1, h2, cellV, g1, g2, g3, -⟩ := hR.2.2.2 x _ hx
  cases hc.symm.trans h1
  have hcls := (hF.kd.1 ci r hc).2
  obtain ⟨kA, comp, k1, k2, k3, -⟩ := (hF.kd.2 ti _ ht).2
  obtain ⟨kC, hkC, -⟩ := hcls.2
  have hasg : s.vm.assignable (D.1 ci) comp = true := by
    rcases hcast with rfl | hcast
    · have hcomp : comp = D.1 ci := Option.some.inj (k3.symm.trans hcls.1)
      subst hcomp
      exact va_assign hcls
    · obtain ⟨c0, t0, f1, f2, f3⟩ := Cond.castable_spec (hF.kw _ hcast args)
      cases hcls.1.symm.trans f1
      cases k3.symm.trans f2
      exact f3
  obtain ⟨kcomp, hkcomp, -⟩ := Vm.findClass_spec k3
  refine W.aast hF.1 hF.2.1 h3.2 (fun q h => by cases h) (fun h => by cases h) k1 k2 rfl hkcomp ⟨h0, by rw [arrV_size]; exact (List.getElem?_eq_some_iff.mp hv).1⟩ g1 (fun q h => by rw [g3] at h; cases h) (by rw [g2]; exact hkC) (by rw [g2]; exact hasg) rfl rfl hd fun H1 e1 z oq => ?_
  exact kk p l e s m args below meth c D b0 H0 hF H1 _ ls (hR.set hq z oq (e1.trans (congrArg some (sh_stored hv)))) (sh_locs hL h3.1) hl
theorem sh_aastN {q ti : Nat} {vs : List Value} {v : Value} {i : Int32} {C : String} (hd : decode d.2.1 pc = .ok (.aastore, 1)) (hq : w.2 q = some (true, ti, vs)) (ht : sh_ats[ti]? = some (.object C)) (h0 : ¬ i < 0) (hv : vs[i.toNatClampNeg]? = some v)
    (kk : sh_V d (pc + 1, lv, st) (w.1, sh_up w.2 q (true, ti, vs.set i.toNatClampNeg .null)) cs ss Z) : sh_V d (pc, lv, .null :: .int i :: .ref q :: st) w cs ss Z := by
  intro p l e s m args below meth c D b0 H0 hF H locs ls hR hL hl
  have h3 := hR.2.2.2 q _ hq
  refine va_WaastN (C := C) hF.1 hF.2.1 h3.2 ((hF.kd.2 ti _ ht).1 _ _) (fun h => by cases h) (sh_in h0 hv) rfl rfl hd fun H1 e1 z oq => ?_
  exact kk p l e s m args below meth c D b0 H0 hF H1 _ ls (hR.set hq z oq (e1.trans (congrArg some (sh_stored hv)))) (sh_locs hL h3.1) hl
theorem sh_repl (cA : ClassId) (n : Nat) (x : Value) : arrV cA n (fun _ => x) = arrV cA (List.replicate n x).length (vp_V (List.replicate n x)) := by
  rw [List.length_replicate]
  exact sh_arrV (fun j hj => by simp [vp_V, hj])
theorem sh_newa {atype : ArrayType} {ti N : Nat} {n : Int32} {ty : FieldType} (hd : decode d.2.1 pc = .ok (.newarray atype, 2)) (hty : newarray.typeOf atype = ty) (ht : sh_ats[ti]? = some ty) (hpr : ∀ (U : State) (cA : ClassId), va_RA U cA ty → U.vm.findClass ("[" ++ ty.toString) = some cA) (hw : Cond.arrayClass ty ∈ sh_ws) (hn : ¬ n < 0) (hN : n.toNatClampNeg = N) (hbytes : N * componentBytes ty ≤ 536870912) (hcs : cs + 1 ≤ d.2.2.2.2.1.cells) (hss : ss + N ≤ d.2.2.2.2.1.slots)
    (kk : sh_V d (pc + 2, lv, .ref w.1 :: st) (w.1 + 1, sh_up w.2 w.1 (true, ti, List.replicate N (defaultValue ty))) (cs + 1) (ss + N) Z) : sh_V d (pc, lv, .int n :: st) w cs ss Z := by
  subst hty
  intro p l e s m args below meth c D b0 H0 hF H locs ls hR hL hl
  refine va_newaK hF.1 hF.2.1 (hF.kw _ hw args) rfl hd rfl hn hN hbytes hcs hss hR.1 fun H1 cA e1 z1 o1 hAr hNm => ?_
  have hcA : cA = D.2.2 ti := Option.some.inj (hNm.symm.trans (hpr s _ (hF.kd.2 ti _ ht).2))
  subst hcA
  exact kk p l e s m args below meth c D b0 H0 hF H1 locs ls (hR.push (by rw [z1, hR.1]) (fun q hq => o1 q (by rw [← hR.1]; exact hq)) (e1.trans (congrArg some (sh_repl _ _ _)))) hL hl
theorem sh_anew {index ti N : Nat} {n : Int32} {C : String} (hd : decode d.2.1 pc = .ok (.anewarray index, 3)) (ht : sh_ats[ti]? = some (.object C)) (hw1 : Cond.classLink d.1.cls index C ∈ sh_ws) (hw2 : Cond.arrayOver (.object C) ∈ sh_ws) (hn : ¬ n < 0) (hN : n.toNatClampNeg = N) (hbytes : N * 4 ≤ 536870912) (hcs : cs + 1 ≤ d.2.2.2.2.1.cells) (hss : ss + N ≤ d.2.2.2.2.1.slots)
    (kk : sh_V d (pc + 3, lv, .ref w.1 :: st) (w.1 + 1, sh_up w.2 w.1 (true, ti, List.replicate N .null)) (cs + 1) (ss + N) Z) : sh_V d (pc, lv, .int n :: st) w cs ss Z := by
  subst hN
  intro p l e s m args below meth c D b0 H0 hF H locs ls hR hL hl
  refine W.anew hF.1 hF.2.1 hF.own (hF.kw _ hw1 args) (hF.kw _ hw2 args) rfl hd rfl hn hbytes hcs hss fun cA kA comp f1 f2 f3 f4 => ?_
  obtain ⟨kA', comp', k1, k2, k3, k4⟩ := (hF.kd.2 ti _ ht).2
  have hcA : cA = D.2.2 ti := Option.some.inj (f1.symm.trans k4)
  subst hcA
  rw [hR.1]
  refine kk p l e s m args below meth c D b0 H0 hF _ locs ls (hR.push (by rw [Array.size_push]) (fun q hq => by rw [Array.getElem?_push, if_neg (Nat.ne_of_lt hq)]) ?_) hL hl
  show (H.push _)[w.1]? = _
  rw [← hR.1, Array.getElem?_push_size, ← sh_repl, ← arrV_new]
end SHM
