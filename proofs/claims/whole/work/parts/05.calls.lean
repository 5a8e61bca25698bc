/-! ends, calls, throws -/
/-- how a method of ours ends: with a value in this world, or by a throw of this kind with these objects -/
def sh_Out (D : sh_Dn) (b0 : Nat) (H0 : Heap) (s : State) (r : sh_Rs) (o : Outcome) (t : State) : Prop := match r with
  | .inl (v, w) => o = .returned v ∧ sh_Rep D b0 H0 w t.heap
  | .inr (k, h) => ∃ (x n : Nat) (cell : Cell), o = .threw x ∧ sh_Rep D b0 H0 (n, h) t.heap ∧ t.heap[x]? = some cell ∧ cell.vm.isStatics = false ∧ s.vm.findClass (sh_xn k) = some cell.cls
def sh_E (d : sh_Md) (r : sh_Rs) : sh_Zt := fun D b0 H0 below s _ t => ∃ o, t.status = .running ∧ Ended t below o ∧ sh_Out D b0 H0 s r o t ∧ s.WarmedH t.vm ∧ ∃ L : List Loc, s.sameButNew ({ t with vm := s.vm } : State) L d.2.2.2.2.1.cells d.2.2.2.2.1.slots ∧ ∀ q ∈ L, b0 ≤ q.base
/-- A METHOD'S CONTRACT: called with As in the world w it ends so -/
def sh_M (d : sh_Md) (As : List Value) (w : sh_Wd) (r : sh_Rs) : Prop := sh_V d (0, lv_args 0 As, []) w 0 0 (sh_E d r)
theorem sh_endM {d : sh_Md} {r : sh_Rs} {D : sh_Dn} {b0 : Nat} {H0 : Heap} {below : List Frame} {s : State} {args : Array Value} (t : State) (h : MQ below (fun _ s o t => sh_Out D b0 H0 s r o t) args s d.2.2.2.2.1.cells d.2.2.2.2.1.slots (fun q => b0 ≤ q) t) : sh_E d r D b0 H0 below s args t := by
  obtain ⟨o, h1, h2, h3, L, ⟨-, hW, hs⟩, hL⟩ := h
  exact ⟨o, h1, h2, h3, hW, L, hs, hL⟩
section SHR
variable {d : sh_Md} {pc : Nat} {lv : List (Nat × Value)} {st : List Value} {w : sh_Wd} {cs ss : Nat} {Z : sh_Zt}
theorem sh_ireturn {ty : FieldType} {v : Int32} (hd : decode d.2.1 pc = .ok (.ireturn, 1)) (hr : d.2.2.2.1 = some ty) (hn : narrow ty (.int v) = .int v) (hcs : cs ≤ d.2.2.2.2.1.cells) (hss : ss ≤ d.2.2.2.2.1.slots) : sh_V d (pc, lv, [.int v]) w cs ss (sh_E d (.inl (some (.int v), w))) := by
  intro p l e s m args below meth c D b0 H0 hF H locs ls hR hL hl
  refine W.widen hcs hss (sh_mono sh_endM (W.zret (free := fun q => b0 ≤ q) hF.1 hF.2.1 (hF.ret.trans hr) hn (fun t ht hW => ⟨rfl, by rw [ht]; exact hR⟩) hL hd hF.lk))
theorem sh_lreturn {v : Int64} (hd : decode d.2.1 pc = .ok (.lreturn, 1)) (hr : d.2.2.2.1 = some .long) (hcs : cs ≤ d.2.2.2.2.1.cells) (hss : ss ≤ d.2.2.2.2.1.slots) : sh_V d (pc, lv, [.long v]) w cs ss (sh_E d (.inl (some (.long v), w))) := by
  intro p l e s m args below meth c D b0 H0 hF H locs ls hR hL hl
  refine W.widen hcs hss (sh_mono sh_endM (W.lret (free := fun q => b0 ≤ q) hF.1 hF.2.1 (hF.ret.trans hr) (fun t ht hW => ⟨rfl, by rw [ht]; exact hR⟩) hL hd hF.lk))
theorem sh_dreturn {v : UInt64} (hd : decode d.2.1 pc = .ok (.dreturn, 1)) (hr : d.2.2.2.1 = some .double) (hcs : cs ≤ d.2.2.2.2.1.cells) (hss : ss ≤ d.2.2.2.2.1.slots) : sh_V d (pc, lv, [.double v]) w cs ss (sh_E d (.inl (some (.double v), w))) := by
  intro p l e s m args below meth c D b0 H0 hF H locs ls hR hL hl
  refine W.widen hcs hss (sh_mono sh_endM (W.dret (free := fun q => b0 ≤ q) hF.1 hF.2.1 (hF.ret.trans hr) (fun t ht hW => ⟨rfl, by rw [ht]; exact hR⟩) hL hd hF.lk))
theorem sh_return (hd : decode d.2.1 pc = .ok (.return_, 1)) (hr : d.2.2.2.1 = none) (hcs : cs ≤ d.2.2.2.2.1.cells) (hss : ss ≤ d.2.2.2.2.1.slots) : sh_V d (pc, lv, []) w cs ss (sh_E d (.inl (none, w))) := by
  intro p l e s m args below meth c D b0 H0 hF H locs ls hR hL hl
  refine W.widen hcs hss (sh_mono sh_endM (W.vret (free := fun q => b0 ≤ q) hF.1 hF.2.1 (hF.ret.trans hr) (fun t ht hW => ⟨rfl, by rw [ht]; exact hR⟩) hL hd hF.lk))
theorem sh_areturn {C : String} {v : Option Nat} (hd : decode d.2.1 pc = .ok (.areturn, 1)) (hr : d.2.2.2.1 = some (.object C)) (hcs : cs ≤ d.2.2.2.2.1.cells) (hss : ss ≤ d.2.2.2.2.1.slots) : sh_V d (pc, lv, [va_rf v]) w cs ss (sh_E d (.inl (some (va_rf v), w))) := by
  intro p l e s m args below meth c D b0 H0 hF H locs ls hR hL hl
  refine W.widen hcs hss (sh_mono sh_endM (W.aret (free := fun q => b0 ≤ q) hF.1 hF.2.1 (hF.ret.trans hr) (Or.inl ⟨C, rfl⟩) (by cases v with | none => exact Or.inl rfl | some a => exact Or.inr ⟨a, rfl⟩) (fun t ht hW => ⟨rfl, by rw [ht]; exact hR⟩) hL hd hF.lk))
end SHR
theorem sh_weaken {tb : Tables} {e : Env} {mid below : List Frame} {a b : State} (h : Steps tb e (mid ++ below) a b) : Steps tb e below a b := by
  obtain ⟨n, hn, w⟩ := h
  exact ⟨n, hn, fun k hk => (w k hk).weaken⟩
/-- a method of ours in the tables -/
def sh_CF (dy : sh_Md) (s : State) (mk : MethodId) (methk : Method) (ck : Code) : Prop :=
  s.methodNamed? dy.1 = some mk ∧ s.vm.method? mk = some methk ∧ methk.code = some ck ∧ ck.code = dy.2.1 ∧ ck.maxLocals = dy.2.2.1 ∧ methk.sig.returnType = dy.2.2.2.1 ∧ methk.locks = false ∧ ck.exceptionTable.toList = tableOf dy.2.2.2.2.2 ∧ parseMethodDescriptor dy.1.desc = some methk.sig
theorem sh_CF.of {dy : sh_Md} {s : State} {args : Array Value} (h : (Cond.code dy.1 dy.2.1 dy.2.2.1 dy.2.2.2.1).before args s = true) (hh : dy.2.2.2.2.2 = []) : ∃ mk methk ck, sh_CF dy s mk methk ck := by
  obtain ⟨mk, hn⟩ := Cond.code_named h
  obtain ⟨methk, ck, h1, h2, h3, h4, h5, h6, h7, h8⟩ := Cond.code_spec hn h
  refine ⟨mk, methk, ck, hn, h1, h2, h3, h4, h5, h6, ?_, h8⟩
  rw [hh]
  have h0 : ck.exceptionTable.size = 0 := by simpa [Array.isEmpty] using h7
  exact List.eq_nil_of_length_eq_zero (by simpa using h0)
section SHC
variable {p : Program} {l : Launch} {e : Env} {R : Room} {s : State} {m : MethodId} {args : Array Value} {below : List Frame} {meth : Method} {c : Code} {T : State} {locs : List Loc} {cs ss : Nat} {D : sh_Dn} {b0 : Nat} {H0 H : Heap} {w : sh_Wd}
/-- into a method of ours and out of it -/
theorem sh_into {dy : sh_Md} {r : sh_Rs} {As : List Value} (hM : sh_M dy As w r) (X : Stand p l e R s m args below meth c T locs cs ss) (hexec : p.tables.exec = Jvm.exec) (hkw : sh_Kw s) (hkd : sh_Kd D s) (hth : sh_Th l s b0 H0) (hR : sh_Rep D b0 H0 w T.heap)
    {g : JFrame} (hg : g.method = m) (hsize : g.locals.size = c.maxLocals) {ig : Instr} (hdg : decode c.code g.pc = .ok (ig, 3)) {mk : MethodId} {methk : Method} {ck : Code} (hC : sh_CF dy s mk methk ck) (hpl : plainName dy.1.cls = true) (hAs : (lg_sl As).length ≤ dy.2.2.1)
    (hframes : dy.2.2.2.2.1.frames + 1 ≤ R.frames) (hlocals : 2 * g.monitorRoom + (g.stack.map fun v => v.category).sum + (dy.2.2.1 + 11) + dy.2.2.2.2.1.locals ≤ R.locals) (hcells : cs + dy.2.2.2.2.1.cells ≤ R.cells) (hslots : ss + dy.2.2.2.2.1.slots ≤ R.slots) :
    ∃ t, (∀ acts, Steps p.tables e below (doInvoke e (T.setTop g) acts mk As.toArray).1 t) ∧ match r with
      | .inl (v, w') => ∃ (T' : State) (L : List Loc), Stand p l e R s m args below meth c T' (locs ++ L) (cs + dy.2.2.2.2.1.cells) (ss + dy.2.2.2.2.1.slots) ∧ (∀ q ∈ L, b0 ≤ q.base) ∧ sh_Rep D b0 H0 w' T'.heap ∧ t = T'.setTop { g with pc := g.pc + 3, stack := v.toList ++ g.stack }
      | .inr (k, h') => ∃ (T' : State) (L : List Loc) (x n : Nat) (cell : Cell), Stand p l e R s m args below meth c T' (locs ++ L) (cs + dy.2.2.2.2.1.cells) (ss + dy.2.2.2.2.1.slots) ∧ (∀ q ∈ L, b0 ≤ q.base) ∧ sh_Rep D b0 H0 (n, h') T'.heap ∧ T'.heap[x]? = some cell ∧ cell.vm.isStatics = false ∧ s.vm.findClass (sh_xn k) = some cell.cls ∧ t = (T'.setTop g).pushFrame (.throwing x) := by
  obtain ⟨hn, hm, hc, hb, hml, hret, hlk, hxt, -⟩ := hC
  have hal := X.warmed.alike
  have hnT : T.methodNamed? dy.1 = some mk := X.named hn
  have hmT : T.vm.method? mk = some methk := by rw [hal.method?]; exact hm
  have hpk : T.plainMethod mk := State.plainMethod.of_named (plainFor_of_name hpl) hnT hmT
  obtain ⟨Y₀, hin⟩ := X.into hg hsize hdg As.toArray (R' := dy.2.2.2.2.1) hmT hc hlk hpk hframes (by rw [hml]; exact hlocals) hcells hslots
  have hvm' : (T.calling g mk As.toArray).vm = T.vm := rfl
  have hW0 : s.WarmedH (T.calling g mk As.toArray).vm := X.warmed
  have hF : sh_Fit dy p l e (T.calling g mk As.toArray) mk methk ck D b0 H0 :=
    ⟨hexec, hb, hml, hret, hlk, by rw [hvm', hal.findClass]; exact findClass_of_methodNamed hn, (name_of_methodNamed hn hm).1, hxt, hkw.warm hW0, hkd.moved hW0.alike, sh_Th.moved hth hW0 hR⟩
  have hent := lv_entry As (n := dy.2.2.1) hAs
  have hfr : entryFrame mk As.toArray ck.maxLocals = F0 mk 0 ((lg_sl As ++ List.replicate (dy.2.2.1 - (lg_sl As).length) Slot.unset).toArray) [] := by rw [hml, lg_entry_eq]
  obtain ⟨t, st, o, hrun, hend, hout, hW, L, hsame, hL⟩ := hM p l e (T.calling g mk As.toArray) mk As.toArray (.java g :: below) methk ck D b0 H0 hF T.heap [] _ hR (fun q h => by cases h) hent ((T.setTop g).pushFrame (.java (entryFrame mk As.toArray ck.maxLocals))) rfl Y₀
  refine ⟨t, fun acts => ?_, ?_⟩
  · rw [hin acts]
    rw [← hfr] at st
    exact sh_weaken (mid := [.java g]) st
  · cases r with
    | inl vw =>
      obtain ⟨v, w'⟩ := vw
      obtain ⟨rfl, hR'⟩ := hout
      obtain ⟨T', X', -, -, ht⟩ := X.outOf hg hdg hend hW hsame
      exact ⟨T', L, X', hL, by rw [ht] at hR'; exact hR', ht⟩
    | inr kh =>
      obtain ⟨k, h'⟩ := kh
      obtain ⟨x, n, cell, rfl, hR', hx, hv, hcl⟩ := hout
      obtain ⟨T', X', -, -, ht⟩ := X.outOfThrown hg hend hW hsame
      rw [ht] at hR' hx
      exact ⟨T', L, x, n, cell, X', hL, hR', hx, hv, by rw [hvm', hal.findClass] at hcl; exact hcl, ht⟩
/-- the invoking instruction, up to the method's entry -/
def sh_Go (p : Program) (l : Launch) (e : Env) (R : Room) (s : State) (m : MethodId) (args : Array Value) (below : List Frame) (meth : Method) (c : Code) (H : Heap) (g : JFrame) (rest : List Value) (mk : MethodId) (As : List Value) : Prop :=
  ∀ (T : State) (locs : List Loc) (cs ss : Nat), T.heap = H → Stand p l e R s m args below meth c T locs cs ss → ∃ vm₁, Stand p l e R s m args below meth c (T.setVm vm₁) locs cs ss ∧ ∀ target, (∀ acts, Steps p.tables e below (doInvoke e ((T.setVm vm₁).setTop { g with stack := rest }) acts mk As.toArray).1 target) → Steps p.tables e below (T.setTop g) target
end SHC
/-- what a call asks of the tables: from d's code at pc, stack stk = rest over the arguments, to the method dy (its receiver's class known in the heap) -/
def sh_Call (d dy : sh_Md) (pc : Nat) (stk rest : List Value) (w : sh_Wd) (As : List Value) : Prop :=
  plainName dy.1.cls = true ∧ ((∃ ig, decode d.2.1 pc = .ok (ig, 3)) ∧ (lg_sl As).length ≤ dy.2.2.1) ∧
  ∀ (p : Program) (l : Launch) (e : Env) (s : State) (m : MethodId) (args : Array Value) (below : List Frame) (meth : Method) (c : Code) (D : sh_Dn) (b0 : Nat) (H0 H : Heap) (ls : Array Slot), sh_Fit d p l e s m meth c D b0 H0 → sh_Rep D b0 H0 w H → ∃ mk methk ck, sh_CF dy s mk methk ck ∧ sh_Go p l e d.2.2.2.2.1 s m args below meth c H (F0 m pc ls stk) rest mk As
/-- the room that a call asks -/
def sh_Rm (d dy : sh_Md) (rest : List Value) (cs ss : Nat) : Prop :=
  dy.2.2.2.2.1.frames + 1 ≤ d.2.2.2.2.1.frames ∧ (rest.map fun v => v.category).sum + (dy.2.2.1 + 11) + dy.2.2.2.2.1.locals ≤ d.2.2.2.2.1.locals ∧ cs + dy.2.2.2.2.1.cells ≤ d.2.2.2.2.1.cells ∧ ss + dy.2.2.2.2.1.slots ≤ d.2.2.2.2.1.slots
section SHX
variable {d dy : sh_Md} {pc : Nat} {lv : List (Nat × Value)} {stk st : List Value} {w w' : sh_Wd} {cs ss : Nat} {Z : sh_Zt} {As : List Value}
theorem sh_callR {v : Option Value} (hc : sh_Call d dy pc stk st w As) (hM : sh_M dy As w (.inl (v, w'))) (hr : sh_Rm d dy st cs ss)
    (kk : sh_V d (pc + 3, lv, v.toList ++ st) w' (cs + dy.2.2.2.2.1.cells) (ss + dy.2.2.2.2.1.slots) Z) : sh_V d (pc, lv, stk) w cs ss Z := by
  intro p l e s m args below meth c D b0 H0 hF H locs ls hR hL hl
  obtain ⟨hpl, ⟨⟨ig, hd⟩, hAs⟩, hgo⟩ := hc
  obtain ⟨mk, methk, ck, hC, go⟩ := hgo p l e s m args below meth c D b0 H0 H ls hF hR
  intro T hT X
  obtain ⟨vm₁, X₁, hstep⟩ := go T locs cs ss hT X
  have hmr : (F0 m pc ls st).monitorRoom = 0 := rfl
  obtain ⟨t, hsteps, T', L, X', hL', hR', ht⟩ := sh_into (D := D) (b0 := b0) (H0 := H0) hM X₁ hF.1 hF.kw hF.kd hF.th (by show sh_Rep D b0 H0 w T.heap; rw [hT]; exact hR) (g := F0 m pc ls st) rfl (by rw [hF.ml]; exact hl.1) (ig := ig) (by rw [hF.2.1]; exact hd) hC hpl hAs hr.1 (by show 2 * (F0 m pc ls st).monitorRoom + (st.map fun v => v.category).sum + (dy.2.2.1 + 11) + dy.2.2.2.2.1.locals ≤ d.2.2.2.2.1.locals; rw [hmr]; have := hr.2.1; omega) hr.2.2.1 hr.2.2.2
  obtain ⟨t2, a1, b1⟩ := kk p l e s m args below meth c D b0 H0 hF T'.heap (locs ++ L) ls hR' (by
    intro q hq
    rcases List.mem_append.mp hq with h | h
    · exact hL q h
    · exact hL' q h) hl T' rfl X'
  exact ⟨t2, (hstep _ hsteps).trans (by rw [ht]; exact a1), b1⟩
theorem sh_callT {k : Nat} {h' : sh_Hp} (hc : sh_Call d dy pc stk st w As) (hM : sh_M dy As w (.inr (k, h'))) (hr : sh_Rm d dy st cs ss) (hno : d.2.2.2.2.2 = []) : sh_V d (pc, lv, stk) w cs ss (sh_E d (.inr (k, h'))) := by
  intro p l e s m args below meth c D b0 H0 hF H locs ls hR hL hl
  obtain ⟨hpl, ⟨⟨ig, hd⟩, hAs⟩, hgo⟩ := hc
  obtain ⟨mk, methk, ck, hC, go⟩ := hgo p l e s m args below meth c D b0 H0 H ls hF hR
  intro T hT X
  obtain ⟨vm₁, X₁, hstep⟩ := go T locs cs ss hT X
  have hmr : (F0 m pc ls st).monitorRoom = 0 := rfl
  obtain ⟨t, hsteps, T', L, x, n, cell, X', hL', hR', hx, hv, hcl, ht⟩ := sh_into (D := D) (b0 := b0) (H0 := H0) hM X₁ hF.1 hF.kw hF.kd hF.th (by show sh_Rep D b0 H0 w T.heap; rw [hT]; exact hR) (g := F0 m pc ls st) rfl (by rw [hF.ml]; exact hl.1) (ig := ig) (by rw [hF.2.1]; exact hd) hC hpl hAs hr.1 (by show 2 * (F0 m pc ls st).monitorRoom + (st.map fun v => v.category).sum + (dy.2.2.1 + 11) + dy.2.2.2.2.1.locals ≤ d.2.2.2.2.1.locals; rw [hmr]; have := hr.2.1; omega) hr.2.2.1 hr.2.2.2
  obtain ⟨hwalk, hrun, hended, hW, hsame⟩ := X'.leaveThrown x (g := F0 m pc ls st) rfl rfl rfl (by rw [hF.xt, hno]; intro y hy; cases hy) hF.lk
  refine ⟨_, (hstep _ hsteps).trans (by rw [ht]; exact hwalk), .threw x, hrun, hended, ⟨x, n, cell, rfl, hR', hx, hv, hcl⟩, hW, locs ++ L, ?_, ?_⟩
  · exact hsame.mono hr.2.2.1 hr.2.2.2
  · intro q hq
    rcases List.mem_append.mp hq with h | h
    · exact hL q h
    · exact hL' q h
end SHX
/-! links: what the tables say of a call site -/
def sh_nmh (C : String) : Prop := C ≠ "java/lang/invoke/MethodHandle" ∧ C ≠ "java/lang/invoke/VarHandle"
/-- dy is a method of ours: its words -/
def sh_LM (dy : sh_Md) (n : Nat) : Prop := Cond.code dy.1 dy.2.1 dy.2.2.1 dy.2.2.2.1 ∈ sh_ws ∧ dy.2.2.2.2.2 = [] ∧ sh_nmh dy.1.cls ∧ plainName dy.1.cls = true ∧ (parseMethodDescriptor dy.1.desc).map (fun q => q.parameters.length) = some n
/-- the entry idx of own's pool links to the method y -/
def sh_LN (own : String) (idx : Nat) (y : MethodName) : Prop := Cond.methodLink own idx y ∈ sh_ws ∨ ∃ host, Cond.methodLinkNest own idx y host ∈ sh_ws
section SHL
variable {d dy : sh_Md} {pc idx : Nat} {stk st : List Value} {w : sh_Wd} {As : List Value}
theorem sh_len {y : MethodName} {n : Nat} {methk : Method} {As : List Value} (h : (parseMethodDescriptor y.desc).map (fun q => q.parameters.length) = some n) (hs : parseMethodDescriptor y.desc = some methk.sig) (hn : As.length = n) : As.length = methk.sig.parameters.length := by
  rw [hs] at h
  exact hn.trans (Option.some.inj h).symm
theorem sh_stat {n : Nat} (hd : decode d.2.1 pc = .ok (.invokestatic idx, 3)) (hM : sh_LM dy n) (hN : sh_LN d.1.cls idx dy.1) (hst : Cond.static dy.1 ∈ sh_ws) (hini : Cond.initialized dy.1.cls ∈ sh_ws) (hn : As.length = n) (hstk : stk = As.reverse ++ st) (hsl : (lg_sl As).length ≤ dy.2.2.1) : sh_Call d dy pc stk st w As := by
  obtain ⟨hcode, hh, hmh, hpl, hpar⟩ := hM
  refine ⟨hpl, ⟨⟨_, hd⟩, hsl⟩, ?_⟩
  intro p l e s m args below meth c D b0 H0 H ls hF hR
  obtain ⟨mk, methk, ck, hC⟩ := sh_CF.of (hF.kw _ hcode args) hh
  refine ⟨mk, methk, ck, hC, ?_⟩
  obtain ⟨hn0, hm0, -, -, -, -, -, -, hsig⟩ := hC
  have hstatic : methk.isStatic = true := Cond.static_spec hn0 hm0 (hF.kw _ hst args)
  obtain ⟨kP, hkP, -⟩ := className_of_methodNamed hn0
  have hinitP : kP.init = .initialized := Cond.initialized_spec (findClass_of_methodNamed hn0) hkP (hF.kw _ hini args)
  intro T locs cs ss hT X
  rcases hN with hN | ⟨host, hN⟩
  · exact X.invokestatic hF.1 hF.own (hF.kw _ hN args) hn0 hm0 hstatic hkP hinitP hmh (g := F0 m pc ls stk) rfl (sh_len hpar hsig hn) hstk (by rw [hF.2.1]; exact hd)
  · exact X.invokestaticNest hF.1 hF.own (hF.kw _ hN args) hn0 hm0 hstatic hkP hinitP hmh (g := F0 m pc ls stk) rfl (sh_len hpar hsig hn) hstk (by rw [hF.2.1]; exact hd)
theorem sh_init {n a : Nat} (hd : decode d.2.1 pc = .ok (.invokespecial idx, 3)) (hM : sh_LM dy n) (hN : sh_LN d.1.cls idx dy.1) (hin : Cond.instanceMethod dy.1 ∈ sh_ws) (hnm : dy.1.name = "<init>") (hret : dy.2.2.2.1 = none) (hn : As.length = n) (hstk : stk = As.reverse ++ .ref a :: st) (hsl : (lg_sl (.ref a :: As)).length ≤ dy.2.2.1) : sh_Call d dy pc stk st w (.ref a :: As) := by
  obtain ⟨hcode, hh, hmh, hpl, hpar⟩ := hM
  refine ⟨hpl, ⟨⟨_, hd⟩, hsl⟩, ?_⟩
  intro p l e s m args below meth c D b0 H0 H ls hF hR
  obtain ⟨mk, methk, ck, hC⟩ := sh_CF.of (hF.kw _ hcode args) hh
  refine ⟨mk, methk, ck, hC, ?_⟩
  obtain ⟨hn0, hm0, -, -, -, -, -, -, hsig⟩ := hC
  have hcode' := hF.kw _ hcode args
  rw [hret] at hcode'
  intro T locs cs ss hT X
  have hmag : e.platform.magicAccessors = ({} : Platform).magicAccessors := by rw [X.admits.platform]
  have hlen : ∀ sig, parseMethodDescriptor dy.1.desc = some sig → As.length = sig.parameters.length := fun sig hs => by
    rw [hs] at hpar
    exact hn.trans (Option.some.inj hpar).symm
  rcases hN with hN | ⟨host, hN⟩
  · obtain ⟨tm, _, _, _, vm₁, hnamed, -, -, -, -, -, -, -, hW₁, hstep⟩ := Steps.initColdArgs (e := e) X.here hF.1 X.warmed hmag hF.own hnm hmh (hF.kw _ hN args) (hF.kw _ hin args) hcode' (f := F0 m pc ls stk) rfl hlen hstk (by rw [hF.2.1]; exact hd)
    cases hn0.symm.trans hnamed
    exact ⟨vm₁, X.noted hW₁, hstep⟩
  · obtain ⟨tm, _, _, _, vm₁, hnamed, -, -, -, -, -, -, -, hW₁, hstep⟩ := Steps.initColdArgsNest (e := e) X.here hF.1 X.warmed hmag hF.own hnm hmh (hF.kw _ hN args) (hF.kw _ hin args) hcode' (f := F0 m pc ls stk) rfl hlen hstk (by rw [hF.2.1]; exact hd)
    cases hn0.symm.trans hnamed
    exact ⟨vm₁, X.noted hW₁, hstep⟩
/-- a virtual call that names the very method: of the receiver's own class, private or not -/
theorem sh_virt {n a ci : Nat} {fs : List Value} {r : vw_C} (hd : decode d.2.1 pc = .ok (.invokevirtual idx, 3)) (hM : sh_LM dy n) (hN : sh_LN d.1.cls idx dy.1) (hin : Cond.instanceMethod dy.1 ∈ sh_ws) (hsel : Cond.selects r.1 dy.1 dy.1 ∈ sh_ws) (hn : As.length = n) (hstk : stk = As.reverse ++ .ref a :: st) (hsl : (lg_sl (.ref a :: As)).length ≤ dy.2.2.1) (hq : w.2 a = some (false, ci, fs)) (hc : vwCl[ci]? = some r) : sh_Call d dy pc stk st w (.ref a :: As) := by
  obtain ⟨hcode, hh, hmh, hpl, hpar⟩ := hM
  refine ⟨hpl, ⟨⟨_, hd⟩, hsl⟩, ?_⟩
  intro p l e s m args below meth c D b0 H0 H ls hF hR
  obtain ⟨mk, methk, ck, hC⟩ := sh_CF.of (hF.kw _ hcode args) hh
  refine ⟨mk, methk, ck, hC, ?_⟩
  obtain ⟨hn0, hm0, -, -, -, -, -, -, hsig⟩ := hC
  obtain ⟨mk', methM, hnamed, hmethM, hstM, habM⟩ := Cond.instanceMethod_spec (hF.kw _ hin args)
  cases hn0.symm.trans hnamed
  cases hm0.symm.trans hmethM
  obtain ⟨-, r', h1, h2, cell, q1, q2, q3, q4⟩ := hR.2.2.2 a _ hq
  cases hc.symm.trans h1
  have hcls : s.vm.findClass r.1 = some cell.cls := by rw [q2]; exact (hF.kd.1 ci r hc).2.1
  obtain ⟨c2, r2, m2, g1, g2, g3, g4, kP, hkP, hkPi⟩ := Cond.selects_spec (hF.kw _ hsel args)
  cases hcls.symm.trans g1
  cases (State.methodFound?_of_named hn0 hmh).symm.trans g2
  cases hn0.symm.trans g3
  intro T locs cs ss hT X
  have hselP : selectMethod e.platform s.vm cell.cls mk = .method mk := by rw [Launch.admits_selectMethod X.admits]; exact g4
  rcases hN with hN | ⟨host, hN⟩
  · exact X.invokevirtual hF.1 hF.own (hF.kw _ hN args) hn0 hm0 hstM hkP hkPi hmh (a := a) (cell := cell) (by rw [hT]; exact q1) (fun z h => by rw [q3] at h; cases h) hselP hm0 habM hkP hkPi (g := F0 m pc ls stk) rfl (sh_len hpar hsig hn) hstk (by rw [hF.2.1]; exact hd)
  · exact X.invokevirtualNest hF.1 hF.own (hF.kw _ hN args) hn0 hm0 hstM hkP hkPi hmh (a := a) (cell := cell) (by rw [hT]; exact q1) (fun z h => by rw [q3] at h; cases h) hselP hm0 habM hkP hkPi (g := F0 m pc ls stk) rfl (sh_len hpar hsig hn) hstk (by rw [hF.2.1]; exact hd)
/-- a virtual call that names x, found in owner; the receiver's class selects dy -/
theorem sh_virtU {n a ci : Nat} {fs : List Value} {r : vw_C} {x : MethodName} {owner : String} (hd : decode d.2.1 pc = .ok (.invokevirtual idx, 3)) (hM : sh_LM dy n) (hN : Cond.methodLink d.1.cls idx x ∈ sh_ws) (hsame : Cond.sameMethod x.cls owner x.name x.desc ∈ sh_ws) (hdc : Cond.declares ⟨owner, x.name, x.desc⟩ ∈ sh_ws ∨ ∃ b0 m0 r0, Cond.instanceMethod ⟨owner, x.name, x.desc⟩ ∈ sh_ws ∧ Cond.code ⟨owner, x.name, x.desc⟩ b0 m0 r0 ∈ sh_ws) (how : sh_nmh owner) (hpx : (parseMethodDescriptor x.desc).map (fun q => q.parameters.length) = some n)
    (hin : Cond.instanceMethod dy.1 ∈ sh_ws) (hsel : Cond.selects r.1 x dy.1 ∈ sh_ws) (hn : As.length = n) (hstk : stk = As.reverse ++ .ref a :: st) (hsl : (lg_sl (.ref a :: As)).length ≤ dy.2.2.1) (hq : w.2 a = some (false, ci, fs)) (hc : vwCl[ci]? = some r) : sh_Call d dy pc stk st w (.ref a :: As) := by
  obtain ⟨hcode, hh, hmh, hpl, hpar⟩ := hM
  refine ⟨hpl, ⟨⟨_, hd⟩, hsl⟩, ?_⟩
  intro p l e s m args below meth c D b0 H0 H ls hF hR
  obtain ⟨mk, methk, ck, hC⟩ := sh_CF.of (hF.kw _ hcode args) hh
  refine ⟨mk, methk, ck, hC, ?_⟩
  obtain ⟨hn0, hm0, -, -, -, -, -, -, hsig⟩ := hC
  obtain ⟨mk', methM, hnamed, hmethM, hstM, habM⟩ := Cond.instanceMethod_spec (hF.kw _ hin args)
  cases hn0.symm.trans hnamed
  cases hm0.symm.trans hmethM
  obtain ⟨-, r', h1, h2, cell, q1, q2, q3, q4⟩ := hR.2.2.2 a _ hq
  cases hc.symm.trans h1
  have hcls : s.vm.findClass r.1 = some cell.cls := by rw [q2]; exact (hF.kd.1 ci r hc).2.1
  have hd0 : va_Decl s ⟨owner, x.name, x.desc⟩ := by
    rcases hdc with hdc | ⟨b1, m1, r1, i1, i2⟩
    · exact va_Decl.abs (hF.kw _ hdc #[])
    · exact va_Decl.of (hF.kw _ i1 args) (hF.kw _ i2 args)
  obtain ⟨r0, rm, hnr, hrm, hstR, hsigR⟩ := hd0
  obtain ⟨cn, ck', r1, hcn, hck', hni, hf, hn1⟩ := Cond.sameMethod_found (hF.kw _ hsame args)
  cases hnr.symm.trans hn1
  obtain ⟨c2, r2, m2, g1, g2, g3, g4, kP, hkP, hkPi⟩ := Cond.selects_spec (hF.kw _ hsel args)
  cases hcls.symm.trans g1
  cases hf.symm.trans g2
  cases hn0.symm.trans g3
  intro T locs cs ss hT X
  have hselP : selectMethod e.platform s.vm cell.cls r0 = .method mk := by rw [Launch.admits_selectMethod X.admits]; exact g4
  exact X.invokevirtualUp hF.1 hF.own (hF.kw _ hN args) (hF.kw _ hsame args) how hnr hrm hstR (a := a) (cell := cell) (by rw [hT]; exact q1) (fun z h => by rw [q3] at h; cases h) hselP hm0 habM hkP hkPi (g := F0 m pc ls stk) rfl (sh_len hpx hsigR hn) hstk (by rw [hF.2.1]; exact hd)
end SHL
/-! instanceof, checkcast; the constructor of Object -/
section SHI
variable {d : sh_Md} {pc : Nat} {lv : List (Nat × Value)} {st : List Value} {w : sh_Wd} {cs ss : Nat} {Z : sh_Zt}
theorem sh_recv {p : Program} {l : Launch} {e : Env} {s : State} {m : MethodId} {meth : Method} {c : Code} {D : sh_Dn} {b0 a ci : Nat} {H0 H : Heap} {fs : List Value} {r : vw_C} (hF : sh_Fit d p l e s m meth c D b0 H0) (hR : sh_Rep D b0 H0 w H) (hq : w.2 a = some (false, ci, fs)) (hc : vwCl[ci]? = some r) : ∃ cell : Cell, H[a]? = some cell ∧ cell.vm.isStatics = false ∧ s.vm.findClass r.1 = some cell.cls := by
  obtain ⟨-, r', h1, h2, cell, q1, q2, q3, q4⟩ := hR.2.2.2 a _ hq
  cases hc.symm.trans h1
  exact ⟨cell, q1, by rw [q3]; rfl, by rw [q2]; exact (hF.kd.1 ci r hc).2.1⟩
theorem sh_instY {index a ci : Nat} {nm : String} {fs : List Value} {r : vw_C} (hd : decode d.2.1 pc = .ok (.instanceof index, 3)) (hw : Cond.classLink d.1.cls index nm ∈ sh_ws) (hq : w.2 a = some (false, ci, fs)) (hc : vwCl[ci]? = some r) (hcast : r.1 = nm ∨ Cond.castable r.1 nm ∈ sh_ws)
    (kk : sh_V d (pc + 3, lv, .int 1 :: st) w cs ss Z) : sh_V d (pc, lv, .ref a :: st) w cs ss Z := by
  intro p l e s m args below meth c D b0 H0 hF H locs ls hR hL hl
  have k' := kk p l e s m args below meth c D b0 H0 hF H locs ls hR hL hl
  rcases hcast with rfl | hcast
  · exact va_instS hF.1 hF.2.1 hF.own (hF.kw _ hw args) (hF.kd.1 ci r hc).2 (sh_recv hF hR hq hc) hd k'
  · exact va_instY hF.1 hF.2.1 hF.own (hF.kw _ hw args) (hF.kw _ hcast #[]) (sh_recv hF hR hq hc) hd k'
theorem sh_castY {index a ci : Nat} {nm : String} {fs : List Value} {r : vw_C} (hd : decode d.2.1 pc = .ok (.checkcast index, 3)) (hw : Cond.classLink d.1.cls index nm ∈ sh_ws) (hq : w.2 a = some (false, ci, fs)) (hc : vwCl[ci]? = some r) (hcast : r.1 = nm ∨ Cond.castable r.1 nm ∈ sh_ws)
    (kk : sh_V d (pc + 3, lv, .ref a :: st) w cs ss Z) : sh_V d (pc, lv, .ref a :: st) w cs ss Z := by
  intro p l e s m args below meth c D b0 H0 hF H locs ls hR hL hl
  have k' := kk p l e s m args below meth c D b0 H0 hF H locs ls hR hL hl
  rcases hcast with rfl | hcast
  · exact va_castS hF.1 hF.2.1 hF.own (hF.kw _ hw args) (hF.kd.1 ci r hc).2 (sh_recv hF hR hq hc) hd k'
  · exact va_castY hF.1 hF.2.1 hF.own (hF.kw _ hw args) (hF.kw _ hcast #[]) (sh_recv hF hR hq hc) hd k'
theorem sh_instNo {index a ci : Nat} {nm : String} {fs : List Value} {r : vw_C} (hd : decode d.2.1 pc = .ok (.instanceof index, 3)) (hw : Cond.classLink d.1.cls index nm ∈ sh_ws) (hq : w.2 a = some (false, ci, fs)) (hc : vwCl[ci]? = some r) (hno : Cond.not (.castable r.1 nm) ∈ sh_ws)
    (kk : sh_V d (pc + 3, lv, .int 0 :: st) w cs ss Z) : sh_V d (pc, lv, .ref a :: st) w cs ss Z := by
  intro p l e s m args below meth c D b0 H0 hF H locs ls hR hL hl
  exact va_instNo hF.1 hF.2.1 hF.own (hF.kw _ hw args) (va_Nc.of (hF.kw _ hno args)) (sh_recv hF hR hq hc) hd (kk p l e s m args below meth c D b0 H0 hF H locs ls hR hL hl)
theorem sh_obj {idx a : Nat} (hd : decode d.2.1 pc = .ok (.invokespecial idx, 3)) (hw : Cond.methodLink d.1.cls idx Lib.objectInit ∈ sh_ws) (hw2 : Cond.instanceMethod Lib.objectInit ∈ sh_ws) (hw3 : Cond.code Lib.objectInit ⟨#[0xb1]⟩ 1 none ∈ sh_ws) (hf : 1 ≤ d.2.2.2.2.1.frames) (hlo : (st.map fun v => v.category).sum + 12 ≤ d.2.2.2.2.1.locals)
    (kk : sh_V d (pc + 3, lv, st) w cs ss Z) : sh_V d (pc, lv, .ref a :: st) w cs ss Z := by
  intro p l e s m args below meth c D b0 H0 hF H locs ls hR hL hl
  have hmr : (F0 m pc ls (.ref a :: st)).monitorRoom = 0 := rfl
  exact W.objInit hF.1 hF.2.1 hF.own (hF.kw _ hw args) (hF.kw _ hw2 args) (hF.kw _ hw3 args) rfl (by rw [hF.ml]; exact hl.1) rfl hd hf (by rw [hmr]; omega) (kk p l e s m args below meth c D b0 H0 hF H locs ls hR hL hl)
end SHI
/-! a throw: 'new X(text)', its constructor, athrow; no stack trace is filled in -/
section SHT
variable {p : Program} {l : Launch} {e : Env} {R : Room} {s : State} {m₀ : MethodId} {args : Array Value} {below : List Frame} {meth : Method} {c : Code} {W0 : State} {locs : List Loc} {cells slots : Nat}
/-- the words that the constructor X(String) needs; X's own is bs, its super's entry ix -/
def sh_own (own : String) (ic : Nat) (X : String) (ix : Nat) (bs : ByteArray) : List Cond :=
  Bundle.throwableAtoms ++ (Bundle.throwableSAtoms ++ (Bundle.passSAtoms X "java/lang/RuntimeException" ix bs ++ (Bundle.chainSAtoms "java/lang/RuntimeException" ["java/lang/Exception"] ++
  [.methodLink own ic (Bundle.initS X), .instantiable X 6, .selects X Bundle.tFill0 Bundle.tFill0, .selects X Bundle.tFill Bundle.tFill,
   .lays X Bundle.tN "cause" "Ljava/lang/Throwable;", .lays X Bundle.tN "stackTrace" Bundle.steD, .lays X Bundle.tN "suppressedExceptions" Bundle.listD, .lays X Bundle.tN "detailMessage" "Ljava/lang/String;",
   .isRef (.static Bundle.tN "UNASSIGNED_STACK" Bundle.steD), .isRef (.static Bundle.tN "SUPPRESSED_SENTINEL" Bundle.listD),
   .fieldLink Bundle.tN 198 Bundle.tN "backtrace" "Ljava/lang/Object;", .lays Bundle.tN Bundle.tN "backtrace" "Ljava/lang/Object;", .lays X Bundle.tN "backtrace" "Ljava/lang/Object;"])))
set_option maxHeartbeats 2000000 in
/-- the constructor X(String) on a fresh cell: nothing moves but that cell -/
theorem sh_ctor (X : Stand p l e R s m₀ args below meth c W0 locs cells slots) (hexec : p.tables.exec = Jvm.exec) (htr : e.platform.stackTraces = false) {own cls : String} {ic ix : Nat} {bs : ByteArray}
    (hown : s.vm.findClass own = some m₀.cls) (hcls : Bundle.fit cls = true) (hb0 : decode bs 0 = .ok (.aload_n 0, 1)) (hb1 : decode bs 1 = .ok (.aload_n 1, 1)) (hb2 : decode bs 2 = .ok (.invokespecial ix, 3)) (hb5 : decode bs 5 = .ok (.return_, 1)) (h : ∀ a ∈ sh_own own ic cls ix bs, a.before args s = true)
    {b0 : Nat} {H0 : Heap} (hsf : sh_Sf "UNASSIGNED_STACK" "[Ljava/lang/StackTraceElement;" s b0 H0) (hag : ∀ q : Nat, q < b0 → W0.heap[q]? = s.heap[q]?)
    {a : Addr} {cX : ClassId} {kX : Class} (hfoundX : s.vm.findClass cls = some cX) (hkX : s.vm.classes[cX]? = some kX) (hcell : W0.heap[a]? = some (freshCell cX kX)) (hnew : s.heap.size ≤ a)
    {msg : Value} (hmsg : msg.isRef = true)
    {g : JFrame} (hg : g.method = m₀) (hsize : g.locals.size = c.maxLocals) {rest : List Value} (hstack : g.stack = msg :: .ref a :: .ref a :: rest) (hd6 : decode c.code g.pc = .ok (.invokespecial ic, 3))
    (hRframes : 5 < R.frames) (hRlocals : 2 * g.monitorRoom + ((Value.ref a :: rest).map fun v => v.category).sum + 81 ≤ R.locals) :
    ∃ (vm₂ : Vm) (ce : Cell) (L : List Loc), Stand p l e R s m₀ args below meth c ((W0.setVm vm₂).setCell a ce) (locs ++ L) cells slots ∧ (∀ q ∈ L, q.base = a) ∧ ce.cls = cX ∧ ce.vm = .none ∧
      ∀ target, Steps p.tables e below (((W0.setVm vm₂).setCell a ce).setTop { g with pc := g.pc + 3, stack := .ref a :: rest }) target → Steps p.tables e below (W0.setTop g) target := by
  have hpl : e.platform.magicAccessors = ({} : Platform).magicAccessors := by rw [X.admits.platform]
  have q : ∀ x, x ∈ sh_own own ic cls ix bs → x.holds args s none s [] = true := fun x hx => h x hx
  obtain ⟨T, Z0, LT, -, Y⟩ := ThrowableC.of_atoms (args := args) (by rw [X.admits.platform] : e.platform.frameOwnsMonitors = true) (by rw [X.admits.platform] : e.platform.finalization = false) hpl (fun x hx => h x (by simp [sh_own, hx]))
  obtain ⟨Z, M, LZ, LM, hnZ⟩ := Init0T.ofS_atoms (args := args) hpl LT Y (fun x hx => h x (by simp [sh_own, hx]))
  obtain ⟨P1, L1, hP1, hS1⟩ := PassC.ofS_atoms (args := args) (s := s) hpl (X := cls) (Y := "java/lang/RuntimeException") (Bundle.fit_spec hcls).1 (by decide) hb0 hb1 hb2 hb5 (fun x hx => h x (by simp [sh_own, hx]))
  obtain ⟨P2, Ps, hlen, L2, hLs, hP2, hk1, hks⟩ := Bundle.chainS (args := args) hpl hnZ ["java/lang/Exception"] "java/lang/RuntimeException" (by decide +kernel) (by decide +kernel) (fun x hx => h x (by simp [sh_own, hx]))
  have hk0 : P1.sup = P2.m := Option.some.inj (hS1.symm.trans hP2)
  have hfc : s.vm.findClass cls = some P1.m.cls := findClass_of_methodNamed hP1
  obtain rfl : cX = P1.m.cls := Option.some.inj (hfoundX.symm.trans hfc)
  obtain ⟨c1, k1, hc1, hkk, hord, -, -, -⟩ := Cond.instantiable_spec (q (.instantiable cls 6) (by simp [sh_own]))
  obtain rfl : c1 = P1.m.cls := Option.some.inj (hc1.symm.trans hfc)
  obtain rfl : kX = k1 := Option.some.inj (hkX.symm.trans hkk)
  have sel : ∀ (y : MethodName) (my : MethodId), Cond.selects cls y y ∈ sh_own own ic cls ix bs → s.methodNamed? y = some my → y.cls ≠ "java/lang/invoke/MethodHandle" ∧ y.cls ≠ "java/lang/invoke/VarHandle" → selectMethod e.platform s.vm P1.m.cls my = .method my := by
    intro y my hy hn hx
    obtain ⟨c2, r2, m2, g1, g2, g3, g4, -⟩ := Cond.selects_spec (q _ hy)
    cases Option.some.inj (g1.symm.trans hfc)
    cases Option.some.inj (g2.symm.trans (State.methodFound?_of_named hn hx))
    cases Option.some.inj (g3.symm.trans hn)
    rw [Launch.admits_selectMethod X.admits]; exact g4
  obtain ⟨cS, hcS, hiS⟩ := Y.statics
  obtain ⟨u0, hu0⟩ := Cond.staticRefV Y.unassigned LT.unassignedStatic LT.statics hcS hiS (q (.isRef (.static Bundle.tN "UNASSIGNED_STACK" Bundle.steD)) (by simp [sh_own]))
  obtain ⟨u1, hu1⟩ := Cond.staticRefV Y.sentinel LT.sentinelStatic LT.statics hcS hiS (q (.isRef (.static Bundle.tN "SUPPRESSED_SENTINEL" Bundle.listD)) (by simp [sh_own]))
  obtain ⟨ci198, i198, fB, hb1, hb2, hb3, hb4, -, hb5, hb6, hb7⟩ := Cond.ownField (t := .object "java/lang/Object") Y.found LT.cls (by decide +kernel) (q (.fieldLink Bundle.tN 198 Bundle.tN "backtrace" "Ljava/lang/Object;") (by simp [sh_own])) (q (.lays Bundle.tN Bundle.tN "backtrace" "Ljava/lang/Object;") (by simp [sh_own])) e.platform hpl
  have hlt : T.aS < b0 := by
    obtain ⟨c9, k9, i9, f9, a9, cell9, v9, -, g2, -, g4, -, -, -, -, -, -, -, g12⟩ := hsf
    have e9 : k9 = T.kT := by
      have := g2.symm.trans Y.unassigned
      simp only [Option.some.injEq, Prod.mk.injEq] at this
      exact this.2.1
    rw [e9, LT.statics] at g4
    rw [Option.some.inj g4]; exact g12
  have hcW : W0.heap[T.aS]? = some cS := by rw [hag _ hlt]; exact hcS
  have hkn : cS.vm ≠ .unknown := fun hu => by rw [hu] at hiS; cases hiS
  have hne : T.aS ≠ a := Nat.ne_of_lt (Nat.lt_of_lt_of_le (Array.getElem?_eq_some_iff.mp hcS).1 hnew)
  obtain ⟨iM, hM⟩ := Y.msg
  obtain ⟨tC, dC, eC, nC⟩ := Cond.laysAt hfc hkX Y.cause (q (.lays cls Bundle.tN "cause" "Ljava/lang/Throwable;") (by simp [sh_own]))
  obtain ⟨tS, dS, eS, nS⟩ := Cond.laysAt hfc hkX Y.stack (q (.lays cls Bundle.tN "stackTrace" Bundle.steD) (by simp [sh_own]))
  obtain ⟨tP, dP, eP, nP⟩ := Cond.laysAt hfc hkX Y.supp (q (.lays cls Bundle.tN "suppressedExceptions" Bundle.listD) (by simp [sh_own]))
  obtain ⟨tM, dM, eM, nM⟩ := Cond.laysAt hfc hkX hM (q (.lays cls Bundle.tN "detailMessage" "Ljava/lang/String;") (by simp [sh_own]))
  obtain ⟨tB, dB, eB, nB⟩ := Cond.laysAt hfc hkX hb7 (q (.lays cls Bundle.tN "backtrace" "Ljava/lang/Object;") (by simp [sh_own]))
  have aC := Cond.laysApart eB eC nB nC (by rw [hb5, Y.causeName]; decide)
  have aS := Cond.laysApart eB eS nB nS (by rw [hb5, Y.stackName]; decide)
  have aP := Cond.laysApart eB eP nB nP (by rw [hb5, Y.suppName]; decide)
  have hskip : SkipFacts T e.platform s (fun u => u) u0 ((preparedCellV T.toThrowableT (freshCell P1.m.cls kX) a u0 u1).withEntry W0.cur) := by
    refine ⟨{ ci198 := ci198, i198 := i198, fBack := fB }, ⟨hb1, hb2, hb3, hb4⟩, ?_, fun _ _ => rfl⟩
    have hdef := fresh_default (c := P1.m.cls) tB
    rw [hb6] at hdef
    simpa [preparedCellV, Cell.setSlot, Cell.withEntry, Array.getElem?_setIfInBounds, aC, aS, aP, aC.symm, aS.symm, aP.symm, defaultValue] using hdef
  obtain ⟨tm, -, -, -, vm₁, hn1, -, -, -, -, -, -, -, hW₁, st1⟩ := Steps.initColdS (tb := p.tables) (e := e) (below := below) (s := s) (U := W0) X.here hexec X.warmed hpl hown (t := Bundle.initS cls) rfl rfl (Bundle.fit_spec hcls).2
    (q (.methodLink own ic (Bundle.initS cls)) (by simp [sh_own])) (h (.instanceMethod (Bundle.initS cls)) (by simp [sh_own, Bundle.passSAtoms])) (bytes := bs) (maxL := 2) (h (.code (Bundle.initS cls) bs 2 none) (by simp [sh_own, Bundle.passSAtoms]))
    (f := g) hg (a := a) (msg := msg) (rest := .ref a :: rest) hstack hd6
  obtain rfl : tm = P1.m := Option.some.inj (hn1.symm.trans hP1)
  have X₁ := X.noted hW₁
  obtain ⟨vm₂, X₂, st2⟩ := X₁.ctorMessageOffV hexec (g := { g with stack := .ref a :: rest }) hg hsize T LT Z LZ M LM (P1 :: P2 :: Ps)
    (fun P hP => by
      rcases List.mem_cons.mp hP with rfl | hP
      · exact L1
      · rcases List.mem_cons.mp hP with rfl | hP
        · exact L2
        · exact hLs P hP) ⟨hk0, hk1, hks⟩ (u0 := u0) (sen := u1) (self := a) hmsg (cell := freshCell P1.m.cls kX) (cellS := cS)
    hcell (fun _ => by simp) (by simp) rfl rfl (sel _ _ (by simp [sh_own]) Y.fill0 (by decide)) (sel _ _ (by simp [sh_own]) Y.fill (by decide)) hcW hne hkn hu0 hu1
    (Takes.of_laid hkX hord tC (by rw [Y.causeType]; rfl)) (Takes.of_laid hkX hord tS (by rw [Y.stackType]; exact fits_refV_array _ u0)) (Takes.of_laid hkX hord tP (by rw [Y.suppType]; exact fits_refV_object _ u1))
    (Takes.of_laid hkX hord tM (by rw [Y.msgType]; exact fits_refV_object _ ⟨msg, hmsg⟩)) Y.objLocals hskip htr [] hd6
    (by simp only [List.length_cons, hlen, List.length_nil]; omega) (by simp only [List.length_cons, hlen, List.length_nil]; exact hRlocals)
  refine ⟨vm₂, _, _, X₂, ?_, ?_, ?_, fun target hr => st1 _ (fun acts => ?_)⟩
  · intro x hx
    simp only [List.mem_cons, List.not_mem_nil, or_false] at hx
    rcases hx with rfl | rfl | rfl | rfl | rfl <;> rfl
  · rfl
  · rfl
  · rw [doInvoke_state]
    exact st2 _ hr
end SHT
