/-! the law's helpers -/
/-- it ends with v, and Q tells of the objects then -/
def sh_EQ (d : sh_Md) (v : Option Value) (Q : sh_Hp → Prop) : sh_Zt := fun D b0 H0 below s args t => ∃ n h, Q h ∧ sh_E d (.inl (v, (n, h))) D b0 H0 below s args t
def sh_QM (d : sh_Md) (As : List Value) (w : sh_Wd) (v : Option Value) (Q : sh_Hp → Prop) : Prop := sh_V d (0, lv_args 0 As, []) w 0 0 (sh_EQ d v Q)
theorem sh_VEQ {d : sh_Md} {f : sh_AF} {w : sh_Wd} {cs ss n : Nat} {h : sh_Hp} {v : Option Value} {Q : sh_Hp → Prop} (k : sh_V d f w cs ss (sh_E d (.inl (v, (n, h))))) (hQ : Q h) : sh_V d f w cs ss (sh_EQ d v Q) :=
  fun p l e s m args below meth c D b0 H0 hF H locs ls hR hL hl => sh_mono (fun t ht => ⟨n, h, hQ, ht⟩) (k p l e s m args below meth c D b0 H0 hF H locs ls hR hL hl)
theorem sh_CF.ofW {dy : sh_Md} {s : State} {args : Array Value} (h : (Cond.codeWith dy.1 dy.2.1 dy.2.2.1 dy.2.2.2.1 dy.2.2.2.2.2).before args s = true) : ∃ mk methk ck, sh_CF dy s mk methk ck := by
  obtain ⟨mk, methk, ck, hn, h1, h2, h3, h4, h5, h6, h7, h8⟩ := Cond.codeWith_spec h
  refine ⟨mk, methk, ck, hn, h1, h2, h3, h4, h6, h7, ?_, h8⟩
  rw [← h5]
  unfold tableOf
  rw [List.map_map]
  exact (List.map_id _).symm
section SHQ
variable {d dy : sh_Md} {pc idx : Nat} {lv : List (Nat × Value)} {stk st : List Value} {w : sh_Wd} {cs ss : Nat} {Z : sh_Zt} {As : List Value}
theorem sh_statW {n : Nat} (hd : decode d.2.1 pc = .ok (.invokestatic idx, 3)) (hcode : Cond.codeWith dy.1 dy.2.1 dy.2.2.1 dy.2.2.2.1 dy.2.2.2.2.2 ∈ sh_ws) (hmh : sh_nmh dy.1.cls) (hpl : plainName dy.1.cls = true) (hpar : (parseMethodDescriptor dy.1.desc).map (fun q => q.parameters.length) = some n) (hN : sh_LN d.1.cls idx dy.1) (hst : Cond.static dy.1 ∈ sh_ws) (hini : Cond.initialized dy.1.cls ∈ sh_ws) (hn : As.length = n) (hstk : stk = As.reverse ++ st) (hsl : (lg_sl As).length ≤ dy.2.2.1) : sh_Call d dy pc stk st w As := by
  refine ⟨hpl, ⟨⟨_, hd⟩, hsl⟩, ?_⟩
  intro p l e s m args below meth c D b0 H0 H ls hF hR
  obtain ⟨mk, methk, ck, hC⟩ := sh_CF.ofW (hF.kw _ hcode args)
  refine ⟨mk, methk, ck, hC, ?_⟩
  obtain ⟨hn0, hm0, -, -, -, -, -, -, hsig⟩ := hC
  have hstatic : methk.isStatic = true := Cond.static_spec hn0 hm0 (hF.kw _ hst args)
  obtain ⟨kP, hkP, -⟩ := className_of_methodNamed hn0
  have hinitP : kP.init = .initialized := Cond.initialized_spec (findClass_of_methodNamed hn0) hkP (hF.kw _ hini args)
  intro T locs cs ss hT X
  rcases hN with hN | ⟨host, hN⟩
  · exact X.invokestatic hF.1 hF.own (hF.kw _ hN args) hn0 hm0 hstatic hkP hinitP hmh (g := F0 m pc ls stk) rfl (sh_len hpar hsig hn) hstk (by rw [hF.2.1]; exact hd)
  · exact X.invokestaticNest hF.1 hF.own (hF.kw _ hN args) hn0 hm0 hstatic hkP hinitP hmh (g := F0 m pc ls stk) rfl (sh_len hpar hsig hn) hstk (by rw [hF.2.1]; exact hd)
theorem sh_callQ {v : Option Value} {Q : sh_Hp → Prop} (hc : sh_Call d dy pc stk st w As) (hM : sh_QM dy As w v Q) (hr : sh_Rm d dy st cs ss) (kk : ∀ n h, Q h → sh_V d (pc + 3, lv, v.toList ++ st) (n, h) (cs + dy.2.2.2.2.1.cells) (ss + dy.2.2.2.2.1.slots) Z) : sh_V d (pc, lv, stk) w cs ss Z := by
  intro p l e s m args below meth c D b0 H0 hF H locs ls hR hL hl
  obtain ⟨hpl, ⟨⟨ig, hd⟩, hAs⟩, hgo⟩ := hc
  obtain ⟨mk, methk, ck, hC, go⟩ := hgo p l e s m args below meth c D b0 H0 H ls hF hR
  intro T hT X
  obtain ⟨vm₁, X₁, hstep⟩ := go T locs cs ss hT X
  have hmr : (F0 m pc ls st).monitorRoom = 0 := rfl
  have hin : ∃ t n h, Q h ∧ (∀ acts, Steps p.tables e below (doInvoke e ((T.setVm vm₁).setTop (F0 m pc ls st)) acts mk As.toArray).1 t) ∧ ∃ (T' : State) (L : List Loc), Stand p l e d.2.2.2.2.1 s m args below meth c T' (locs ++ L) (cs + dy.2.2.2.2.1.cells) (ss + dy.2.2.2.2.1.slots) ∧ (∀ q ∈ L, b0 ≤ q.base) ∧ sh_Rep D b0 H0 (n, h) T'.heap ∧ t = T'.setTop { (F0 m pc ls st) with pc := (F0 m pc ls st).pc + 3, stack := v.toList ++ (F0 m pc ls st).stack } := by
    obtain ⟨hn, hm, hc, hb, hml, hret, hlk, hxt, -⟩ := hC
    have hg : (F0 m pc ls st).method = m := rfl
    have hsize : (F0 m pc ls st).locals.size = c.maxLocals := by rw [hF.ml]; exact hl.1
    have hdg : decode c.code (F0 m pc ls st).pc = .ok (ig, 3) := by rw [hF.2.1]; exact hd
    have hal := X₁.warmed.alike
    have hnT : (T.setVm vm₁).methodNamed? dy.1 = some mk := X₁.named hn
    have hmT : (T.setVm vm₁).vm.method? mk = some methk := by rw [hal.method?]; exact hm
    have hpk : (T.setVm vm₁).plainMethod mk := State.plainMethod.of_named (plainFor_of_name hpl) hnT hmT
    obtain ⟨Y₀, hin⟩ := X₁.into hg hsize hdg As.toArray (R' := dy.2.2.2.2.1) hmT hc hlk hpk hr.1 (by rw [hml]; show 2 * (F0 m pc ls st).monitorRoom + (st.map fun v => v.category).sum + (dy.2.2.1 + 11) + dy.2.2.2.2.1.locals ≤ d.2.2.2.2.1.locals; rw [hmr]; have := hr.2.1; omega) hr.2.2.1 hr.2.2.2
    have hvm' : ((T.setVm vm₁).calling (F0 m pc ls st) mk As.toArray).vm = (T.setVm vm₁).vm := rfl
    have hW0 : s.WarmedH ((T.setVm vm₁).calling (F0 m pc ls st) mk As.toArray).vm := X₁.warmed
    have hR1 : sh_Rep D b0 H0 w (T.setVm vm₁).heap := by show sh_Rep D b0 H0 w T.heap; rw [hT]; exact hR
    have hF2 : sh_Fit dy p l e ((T.setVm vm₁).calling (F0 m pc ls st) mk As.toArray) mk methk ck D b0 H0 :=
      ⟨hF.1, hb, hml, hret, hlk, by rw [hvm', hal.findClass]; exact findClass_of_methodNamed hn, (name_of_methodNamed hn hm).1, hxt, hF.kw.warm hW0, hF.kd.moved hW0.alike, sh_Th.moved hF.th hW0 hR1⟩
    have hent := lv_entry As (n := dy.2.2.1) hAs
    have hfr : entryFrame mk As.toArray ck.maxLocals = F0 mk 0 ((lg_sl As ++ List.replicate (dy.2.2.1 - (lg_sl As).length) Slot.unset).toArray) [] := by rw [hml, lg_entry_eq]
    obtain ⟨t, st', n, h, hQ, o, hrun, hend, hout, hW, L, hsame, hL2⟩ := hM p l e ((T.setVm vm₁).calling (F0 m pc ls st) mk As.toArray) mk As.toArray (.java (F0 m pc ls st) :: below) methk ck D b0 H0 hF2 (T.setVm vm₁).heap [] _ hR1 (fun q h => by cases h) hent (((T.setVm vm₁).setTop (F0 m pc ls st)).pushFrame (.java (entryFrame mk As.toArray ck.maxLocals))) rfl Y₀
    obtain ⟨rfl, hR'⟩ := hout
    obtain ⟨T', X', -, -, ht⟩ := X₁.outOf hg hdg hend hW hsame
    refine ⟨t, n, h, hQ, fun acts => ?_, T', L, X', hL2, by rw [ht] at hR'; exact hR', ht⟩
    rw [hin acts]
    rw [← hfr] at st'
    exact sh_weaken (mid := [.java (F0 m pc ls st)]) st'
  obtain ⟨t, n, h, hQ, hsteps, T', L, X', hL', hR', ht⟩ := hin
  obtain ⟨t2, a1, b1⟩ := kk n h hQ p l e s m args below meth c D b0 H0 hF T'.heap (locs ++ L) ls hR' (by
    intro q hq
    rcases List.mem_append.mp hq with h | h
    · exact hL q h
    · exact hL' q h) hl T' rfl X'
  exact ⟨t2, (hstep _ hsteps).trans (by rw [ht]; exact a1), b1⟩
end SHQ
theorem lr_make {h h1 : sh_Hp} {n n1 a : Nat} {fs : List Value} {p0 : Int32} {p1 : Int32} {p2 : Int32} {v : Int32} {y : Int64} {oa : Nat} (f0 : h a = some (false, 0, fs)) (hM : sh_M md_Hall_make [.ref a, .int p0, .int p1, .int p2] (n, h) (.inl (some (.int v), (n1, h1)))) (fo : h1 oa = some (true, 1, [.long y])) : sh_QM md_Law_make [.ref a, .int p0, .int p1, .int p2, .ref oa] (n, h) (some (.int 0)) (fun h' => h' = sh_up h1 oa (true, 1, [.long v.toInt64])) := by
  refine sh_aload dc_Law_make_0 rfl ?_
  refine sh_iconst (v := 0) dc_Law_make_2 (by decide) ?_
  refine sh_aload_n dc_Law_make_3 rfl rfl ?_
  refine sh_iload_n dc_Law_make_4 rfl rfl ?_
  refine sh_iload_n dc_Law_make_5 rfl rfl ?_
  refine sh_iload_n dc_Law_make_6 rfl rfl ?_
  refine sh_callR (sh_virt (As := [.int p0, .int p1, .int p2]) dc_Law_make_7 lm_Hall_make ln_Law_7 wd_187 wd_188 rfl rfl (Nat.le_of_ble_eq_true rfl) f0 rfl) hM ⟨by decide, Nat.le_of_ble_eq_true rfl, by decide, by decide⟩ ?_
  refine sh_i2l dc_Law_make_10 ?_
  refine sh_last (i := 0) dc_Law_make_11 fo rfl (by decide) rfl ?_
  refine sh_goto_ (tgt := 27) dc_Law_make_12 (by decide) ?_
  refine sh_iconst (v := 0) dc_Law_make_27 (by decide) ?_
  exact sh_VEQ (sh_ireturn dc_Law_make_28 rfl rfl (by decide) (by decide)) rfl
theorem lt_make_1 {h h1 : sh_Hp} {n a : Nat} {fs : List Value} {p0 : Int32} {p1 : Int32} {p2 : Int32} {oa : Nat} (f0 : h a = some (false, 0, fs)) (hM : sh_M md_Hall_make [.ref a, .int p0, .int p1, .int p2] (n, h) (.inr (1, h1))) : sh_QM md_Law_make [.ref a, .int p0, .int p1, .int p2, .ref oa] (n, h) (some (.int 1)) (fun h' => h' = h1) := by
  refine sh_aload dc_Law_make_0 rfl ?_
  refine sh_iconst (v := 0) dc_Law_make_2 (by decide) ?_
  refine sh_aload_n dc_Law_make_3 rfl rfl ?_
  refine sh_iload_n dc_Law_make_4 rfl rfl ?_
  refine sh_iload_n dc_Law_make_5 rfl rfl ?_
  refine sh_iload_n dc_Law_make_6 rfl rfl ?_
  refine sh_callC (sh_virt (As := [.int p0, .int p1, .int p2]) dc_Law_make_7 lm_Hall_make ln_Law_7 wd_187 wd_188 rfl rfl (Nat.le_of_ble_eq_true rfl) f0 rfl) hM ⟨by decide, Nat.le_of_ble_eq_true rfl, by decide, by decide⟩ [] ⟨0, 12, 15, 13⟩ [⟨0, 12, 19, 15⟩, ⟨0, 12, 23, 17⟩] rfl (fun z hz => by cases hz) rfl (by decide) wd_183 wd_195 ?_
  intro y2 n2
  refine sh_astore dc_Law_make_15 (by decide) ?_
  refine sh_iconst (v := 1) dc_Law_make_17 (by decide) ?_
  exact sh_VEQ (sh_ireturn dc_Law_make_18 rfl rfl (by decide) (by decide)) rfl
theorem lt_make_2 {h h1 : sh_Hp} {n a : Nat} {fs : List Value} {p0 : Int32} {p1 : Int32} {p2 : Int32} {oa : Nat} (f0 : h a = some (false, 0, fs)) (hM : sh_M md_Hall_make [.ref a, .int p0, .int p1, .int p2] (n, h) (.inr (2, h1))) : sh_QM md_Law_make [.ref a, .int p0, .int p1, .int p2, .ref oa] (n, h) (some (.int 2)) (fun h' => h' = h1) := by
  refine sh_aload dc_Law_make_0 rfl ?_
  refine sh_iconst (v := 0) dc_Law_make_2 (by decide) ?_
  refine sh_aload_n dc_Law_make_3 rfl rfl ?_
  refine sh_iload_n dc_Law_make_4 rfl rfl ?_
  refine sh_iload_n dc_Law_make_5 rfl rfl ?_
  refine sh_iload_n dc_Law_make_6 rfl rfl ?_
  refine sh_callC (sh_virt (As := [.int p0, .int p1, .int p2]) dc_Law_make_7 lm_Hall_make ln_Law_7 wd_187 wd_188 rfl rfl (Nat.le_of_ble_eq_true rfl) f0 rfl) hM ⟨by decide, Nat.le_of_ble_eq_true rfl, by decide, by decide⟩ [⟨0, 12, 15, 13⟩] ⟨0, 12, 19, 15⟩ [⟨0, 12, 23, 17⟩] rfl (fun z hz => by
    simp only [List.mem_cons, List.not_mem_nil, or_false] at hz
    rcases hz with rfl
    · exact .inr ⟨by decide, _, wd_183, wn_4⟩) rfl (by decide) wd_184 wd_276 ?_
  intro y2 n2
  refine sh_astore dc_Law_make_19 (by decide) ?_
  refine sh_iconst (v := 2) dc_Law_make_21 (by decide) ?_
  exact sh_VEQ (sh_ireturn dc_Law_make_22 rfl rfl (by decide) (by decide)) rfl
theorem lt_make_3 {h h1 : sh_Hp} {n a : Nat} {fs : List Value} {p0 : Int32} {p1 : Int32} {p2 : Int32} {oa : Nat} (f0 : h a = some (false, 0, fs)) (hM : sh_M md_Hall_make [.ref a, .int p0, .int p1, .int p2] (n, h) (.inr (3, h1))) : sh_QM md_Law_make [.ref a, .int p0, .int p1, .int p2, .ref oa] (n, h) (some (.int 3)) (fun h' => h' = h1) := by
  refine sh_aload dc_Law_make_0 rfl ?_
  refine sh_iconst (v := 0) dc_Law_make_2 (by decide) ?_
  refine sh_aload_n dc_Law_make_3 rfl rfl ?_
  refine sh_iload_n dc_Law_make_4 rfl rfl ?_
  refine sh_iload_n dc_Law_make_5 rfl rfl ?_
  refine sh_iload_n dc_Law_make_6 rfl rfl ?_
  refine sh_callC (sh_virt (As := [.int p0, .int p1, .int p2]) dc_Law_make_7 lm_Hall_make ln_Law_7 wd_187 wd_188 rfl rfl (Nat.le_of_ble_eq_true rfl) f0 rfl) hM ⟨by decide, Nat.le_of_ble_eq_true rfl, by decide, by decide⟩ [⟨0, 12, 15, 13⟩, ⟨0, 12, 19, 15⟩] ⟨0, 12, 23, 17⟩ [] rfl (fun z hz => by
    simp only [List.mem_cons, List.not_mem_nil, or_false] at hz
    rcases hz with rfl | rfl
    · exact .inr ⟨by decide, _, wd_183, wn_5⟩
    · exact .inr ⟨by decide, _, wd_184, wn_19⟩) rfl (by decide) wd_185 wd_294 ?_
  intro y2 n2
  refine sh_astore dc_Law_make_23 (by decide) ?_
  refine sh_iconst (v := 3) dc_Law_make_25 (by decide) ?_
  exact sh_VEQ (sh_ireturn dc_Law_make_26 rfl rfl (by decide) (by decide)) rfl
theorem lr_rank {h h1 : sh_Hp} {n n1 a : Nat} {fs : List Value} {p0 : Int32} {p1 : UInt64}  (f0 : h a = some (false, 0, fs)) (hM : sh_M md_Hall_rank [.ref a, .int p0, .double p1] (n, h) (.inl (none, (n1, h1)))) : sh_QM md_Law_rank [.ref a, .int p0, .double p1] (n, h) (some (.int 0)) (fun h' => h' = h1) := by
  refine sh_aload_n dc_Law_rank_0 rfl rfl ?_
  refine sh_iload_n dc_Law_rank_1 rfl rfl ?_
  refine sh_dload_n dc_Law_rank_2 rfl rfl ?_
  refine sh_callR (sh_virt (As := [.int p0, .double p1]) dc_Law_rank_3 lm_Hall_rank ln_Law_19 wd_443 wd_444 rfl rfl (Nat.le_of_ble_eq_true rfl) f0 rfl) hM ⟨by decide, Nat.le_of_ble_eq_true rfl, by decide, by decide⟩ ?_
  refine sh_goto_ (tgt := 13) dc_Law_rank_6 (by decide) ?_
  refine sh_iconst (v := 0) dc_Law_rank_13 (by decide) ?_
  exact sh_VEQ (sh_ireturn dc_Law_rank_14 rfl rfl (by decide) (by decide)) rfl
theorem lt_rank_1 {h h1 : sh_Hp} {n a : Nat} {fs : List Value} {p0 : Int32} {p1 : UInt64}  (f0 : h a = some (false, 0, fs)) (hM : sh_M md_Hall_rank [.ref a, .int p0, .double p1] (n, h) (.inr (1, h1))) : sh_QM md_Law_rank [.ref a, .int p0, .double p1] (n, h) (some (.int 1)) (fun h' => h' = h1) := by
  refine sh_aload_n dc_Law_rank_0 rfl rfl ?_
  refine sh_iload_n dc_Law_rank_1 rfl rfl ?_
  refine sh_dload_n dc_Law_rank_2 rfl rfl ?_
  refine sh_callC (sh_virt (As := [.int p0, .double p1]) dc_Law_rank_3 lm_Hall_rank ln_Law_19 wd_443 wd_444 rfl rfl (Nat.le_of_ble_eq_true rfl) f0 rfl) hM ⟨by decide, Nat.le_of_ble_eq_true rfl, by decide, by decide⟩ [] ⟨0, 6, 9, 13⟩ [] rfl (fun z hz => by cases hz) rfl (by decide) wd_183 wd_195 ?_
  intro y2 n2
  refine sh_astore dc_Law_rank_9 (by decide) ?_
  refine sh_iconst (v := 1) dc_Law_rank_11 (by decide) ?_
  exact sh_VEQ (sh_ireturn dc_Law_rank_12 rfl rfl (by decide) (by decide)) rfl
theorem lr_acquire {h h1 : sh_Hp} {n n1 a : Nat} {fs : List Value} {p0 : Int32} {p1 : Int32} {p2 : Int32} {p3 : UInt64} {v : Int32} {y : Int64} {oa : Nat} (f0 : h a = some (false, 0, fs)) (hM : sh_M md_Hall_acquire [.ref a, .int p0, .int p1, .int p2, .double p3] (n, h) (.inl (some (.int v), (n1, h1)))) (fo : h1 oa = some (true, 1, [.long y])) : sh_QM md_Law_acquire [.ref a, .int p0, .int p1, .int p2, .double p3, .ref oa] (n, h) (some (.int 0)) (fun h' => h' = sh_up h1 oa (true, 1, [.long v.toInt64])) := by
  refine sh_aload dc_Law_acquire_0 rfl ?_
  refine sh_iconst (v := 0) dc_Law_acquire_2 (by decide) ?_
  refine sh_aload_n dc_Law_acquire_3 rfl rfl ?_
  refine sh_iload_n dc_Law_acquire_4 rfl rfl ?_
  refine sh_iload_n dc_Law_acquire_5 rfl rfl ?_
  refine sh_iload_n dc_Law_acquire_6 rfl rfl ?_
  refine sh_dload dc_Law_acquire_7 rfl ?_
  refine sh_callR (sh_virt (As := [.int p0, .int p1, .int p2, .double p3]) dc_Law_acquire_9 lm_Hall_acquire ln_Law_23 wd_459 wd_460 rfl rfl (Nat.le_of_ble_eq_true rfl) f0 rfl) hM ⟨by decide, Nat.le_of_ble_eq_true rfl, by decide, by decide⟩ ?_
  refine sh_i2l dc_Law_acquire_12 ?_
  refine sh_last (i := 0) dc_Law_acquire_13 fo rfl (by decide) rfl ?_
  refine sh_goto_ (tgt := 33) dc_Law_acquire_14 (by decide) ?_
  refine sh_iconst (v := 0) dc_Law_acquire_33 (by decide) ?_
  exact sh_VEQ (sh_ireturn dc_Law_acquire_34 rfl rfl (by decide) (by decide)) rfl
theorem lt_acquire_1 {h h1 : sh_Hp} {n a : Nat} {fs : List Value} {p0 : Int32} {p1 : Int32} {p2 : Int32} {p3 : UInt64} {oa : Nat} (f0 : h a = some (false, 0, fs)) (hM : sh_M md_Hall_acquire [.ref a, .int p0, .int p1, .int p2, .double p3] (n, h) (.inr (1, h1))) : sh_QM md_Law_acquire [.ref a, .int p0, .int p1, .int p2, .double p3, .ref oa] (n, h) (some (.int 1)) (fun h' => h' = h1) := by
  refine sh_aload dc_Law_acquire_0 rfl ?_
  refine sh_iconst (v := 0) dc_Law_acquire_2 (by decide) ?_
  refine sh_aload_n dc_Law_acquire_3 rfl rfl ?_
  refine sh_iload_n dc_Law_acquire_4 rfl rfl ?_
  refine sh_iload_n dc_Law_acquire_5 rfl rfl ?_
  refine sh_iload_n dc_Law_acquire_6 rfl rfl ?_
  refine sh_dload dc_Law_acquire_7 rfl ?_
  refine sh_callC (sh_virt (As := [.int p0, .int p1, .int p2, .double p3]) dc_Law_acquire_9 lm_Hall_acquire ln_Law_23 wd_459 wd_460 rfl rfl (Nat.le_of_ble_eq_true rfl) f0 rfl) hM ⟨by decide, Nat.le_of_ble_eq_true rfl, by decide, by decide⟩ [] ⟨0, 14, 17, 13⟩ [⟨0, 14, 21, 15⟩, ⟨0, 14, 25, 17⟩, ⟨0, 14, 29, 27⟩] rfl (fun z hz => by cases hz) rfl (by decide) wd_183 wd_195 ?_
  intro y2 n2
  refine sh_astore dc_Law_acquire_17 (by decide) ?_
  refine sh_iconst (v := 1) dc_Law_acquire_19 (by decide) ?_
  exact sh_VEQ (sh_ireturn dc_Law_acquire_20 rfl rfl (by decide) (by decide)) rfl
theorem lt_acquire_2 {h h1 : sh_Hp} {n a : Nat} {fs : List Value} {p0 : Int32} {p1 : Int32} {p2 : Int32} {p3 : UInt64} {oa : Nat} (f0 : h a = some (false, 0, fs)) (hM : sh_M md_Hall_acquire [.ref a, .int p0, .int p1, .int p2, .double p3] (n, h) (.inr (2, h1))) : sh_QM md_Law_acquire [.ref a, .int p0, .int p1, .int p2, .double p3, .ref oa] (n, h) (some (.int 2)) (fun h' => h' = h1) := by
  refine sh_aload dc_Law_acquire_0 rfl ?_
  refine sh_iconst (v := 0) dc_Law_acquire_2 (by decide) ?_
  refine sh_aload_n dc_Law_acquire_3 rfl rfl ?_
  refine sh_iload_n dc_Law_acquire_4 rfl rfl ?_
  refine sh_iload_n dc_Law_acquire_5 rfl rfl ?_
  refine sh_iload_n dc_Law_acquire_6 rfl rfl ?_
  refine sh_dload dc_Law_acquire_7 rfl ?_
  refine sh_callC (sh_virt (As := [.int p0, .int p1, .int p2, .double p3]) dc_Law_acquire_9 lm_Hall_acquire ln_Law_23 wd_459 wd_460 rfl rfl (Nat.le_of_ble_eq_true rfl) f0 rfl) hM ⟨by decide, Nat.le_of_ble_eq_true rfl, by decide, by decide⟩ [⟨0, 14, 17, 13⟩] ⟨0, 14, 21, 15⟩ [⟨0, 14, 25, 17⟩, ⟨0, 14, 29, 27⟩] rfl (fun z hz => by
    simp only [List.mem_cons, List.not_mem_nil, or_false] at hz
    rcases hz with rfl
    · exact .inr ⟨by decide, _, wd_183, wn_4⟩) rfl (by decide) wd_184 wd_276 ?_
  intro y2 n2
  refine sh_astore dc_Law_acquire_21 (by decide) ?_
  refine sh_iconst (v := 2) dc_Law_acquire_23 (by decide) ?_
  exact sh_VEQ (sh_ireturn dc_Law_acquire_24 rfl rfl (by decide) (by decide)) rfl
theorem lt_acquire_3 {h h1 : sh_Hp} {n a : Nat} {fs : List Value} {p0 : Int32} {p1 : Int32} {p2 : Int32} {p3 : UInt64} {oa : Nat} (f0 : h a = some (false, 0, fs)) (hM : sh_M md_Hall_acquire [.ref a, .int p0, .int p1, .int p2, .double p3] (n, h) (.inr (3, h1))) : sh_QM md_Law_acquire [.ref a, .int p0, .int p1, .int p2, .double p3, .ref oa] (n, h) (some (.int 3)) (fun h' => h' = h1) := by
  refine sh_aload dc_Law_acquire_0 rfl ?_
  refine sh_iconst (v := 0) dc_Law_acquire_2 (by decide) ?_
  refine sh_aload_n dc_Law_acquire_3 rfl rfl ?_
  refine sh_iload_n dc_Law_acquire_4 rfl rfl ?_
  refine sh_iload_n dc_Law_acquire_5 rfl rfl ?_
  refine sh_iload_n dc_Law_acquire_6 rfl rfl ?_
  refine sh_dload dc_Law_acquire_7 rfl ?_
  refine sh_callC (sh_virt (As := [.int p0, .int p1, .int p2, .double p3]) dc_Law_acquire_9 lm_Hall_acquire ln_Law_23 wd_459 wd_460 rfl rfl (Nat.le_of_ble_eq_true rfl) f0 rfl) hM ⟨by decide, Nat.le_of_ble_eq_true rfl, by decide, by decide⟩ [⟨0, 14, 17, 13⟩, ⟨0, 14, 21, 15⟩] ⟨0, 14, 25, 17⟩ [⟨0, 14, 29, 27⟩] rfl (fun z hz => by
    simp only [List.mem_cons, List.not_mem_nil, or_false] at hz
    rcases hz with rfl | rfl
    · exact .inr ⟨by decide, _, wd_183, wn_5⟩
    · exact .inr ⟨by decide, _, wd_184, wn_19⟩) rfl (by decide) wd_185 wd_294 ?_
  intro y2 n2
  refine sh_astore dc_Law_acquire_25 (by decide) ?_
  refine sh_iconst (v := 3) dc_Law_acquire_27 (by decide) ?_
  exact sh_VEQ (sh_ireturn dc_Law_acquire_28 rfl rfl (by decide) (by decide)) rfl
theorem lt_acquire_4 {h h1 : sh_Hp} {n a : Nat} {fs : List Value} {p0 : Int32} {p1 : Int32} {p2 : Int32} {p3 : UInt64} {oa : Nat} (f0 : h a = some (false, 0, fs)) (hM : sh_M md_Hall_acquire [.ref a, .int p0, .int p1, .int p2, .double p3] (n, h) (.inr (4, h1))) : sh_QM md_Law_acquire [.ref a, .int p0, .int p1, .int p2, .double p3, .ref oa] (n, h) (some (.int 4)) (fun h' => h' = h1) := by
  refine sh_aload dc_Law_acquire_0 rfl ?_
  refine sh_iconst (v := 0) dc_Law_acquire_2 (by decide) ?_
  refine sh_aload_n dc_Law_acquire_3 rfl rfl ?_
  refine sh_iload_n dc_Law_acquire_4 rfl rfl ?_
  refine sh_iload_n dc_Law_acquire_5 rfl rfl ?_
  refine sh_iload_n dc_Law_acquire_6 rfl rfl ?_
  refine sh_dload dc_Law_acquire_7 rfl ?_
  refine sh_callC (sh_virt (As := [.int p0, .int p1, .int p2, .double p3]) dc_Law_acquire_9 lm_Hall_acquire ln_Law_23 wd_459 wd_460 rfl rfl (Nat.le_of_ble_eq_true rfl) f0 rfl) hM ⟨by decide, Nat.le_of_ble_eq_true rfl, by decide, by decide⟩ [⟨0, 14, 17, 13⟩, ⟨0, 14, 21, 15⟩, ⟨0, 14, 25, 17⟩] ⟨0, 14, 29, 27⟩ [] rfl (fun z hz => by
    simp only [List.mem_cons, List.not_mem_nil, or_false] at hz
    rcases hz with rfl | rfl | rfl
    · exact .inr ⟨by decide, _, wd_183, wn_12⟩
    · exact .inr ⟨by decide, _, wd_184, wn_26⟩
    · exact .inr ⟨by decide, _, wd_185, wn_40⟩) rfl (by decide) wd_457 wd_476 ?_
  intro y2 n2
  refine sh_astore dc_Law_acquire_29 (by decide) ?_
  refine sh_iconst (v := 4) dc_Law_acquire_31 (by decide) ?_
  exact sh_VEQ (sh_ireturn dc_Law_acquire_32 rfl rfl (by decide) (by decide)) rfl
theorem lr_release {h h1 : sh_Hp} {n n1 a : Nat} {fs : List Value} {p0 : Int32} {p1 : Int32} {p2 : Int32} {v : Int32} {y : Int64} {oa : Nat} (f0 : h a = some (false, 0, fs)) (hM : sh_M md_Hall_release [.ref a, .int p0, .int p1, .int p2] (n, h) (.inl (some (.int v), (n1, h1)))) (fo : h1 oa = some (true, 1, [.long y])) : sh_QM md_Law_release [.ref a, .int p0, .int p1, .int p2, .ref oa] (n, h) (some (.int 0)) (fun h' => h' = sh_up h1 oa (true, 1, [.long v.toInt64])) := by
  refine sh_aload dc_Law_release_0 rfl ?_
  refine sh_iconst (v := 0) dc_Law_release_2 (by decide) ?_
  refine sh_aload_n dc_Law_release_3 rfl rfl ?_
  refine sh_iload_n dc_Law_release_4 rfl rfl ?_
  refine sh_iload_n dc_Law_release_5 rfl rfl ?_
  refine sh_iload_n dc_Law_release_6 rfl rfl ?_
  refine sh_callR (sh_virt (As := [.int p0, .int p1, .int p2]) dc_Law_release_7 lm_Hall_release ln_Law_29 wd_625 wd_626 rfl rfl (Nat.le_of_ble_eq_true rfl) f0 rfl) hM ⟨by decide, Nat.le_of_ble_eq_true rfl, by decide, by decide⟩ ?_
  refine sh_i2l dc_Law_release_10 ?_
  refine sh_last (i := 0) dc_Law_release_11 fo rfl (by decide) rfl ?_
  refine sh_goto_ (tgt := 31) dc_Law_release_12 (by decide) ?_
  refine sh_iconst (v := 0) dc_Law_release_31 (by decide) ?_
  exact sh_VEQ (sh_ireturn dc_Law_release_32 rfl rfl (by decide) (by decide)) rfl
theorem lt_release_1 {h h1 : sh_Hp} {n a : Nat} {fs : List Value} {p0 : Int32} {p1 : Int32} {p2 : Int32} {oa : Nat} (f0 : h a = some (false, 0, fs)) (hM : sh_M md_Hall_release [.ref a, .int p0, .int p1, .int p2] (n, h) (.inr (1, h1))) : sh_QM md_Law_release [.ref a, .int p0, .int p1, .int p2, .ref oa] (n, h) (some (.int 1)) (fun h' => h' = h1) := by
  refine sh_aload dc_Law_release_0 rfl ?_
  refine sh_iconst (v := 0) dc_Law_release_2 (by decide) ?_
  refine sh_aload_n dc_Law_release_3 rfl rfl ?_
  refine sh_iload_n dc_Law_release_4 rfl rfl ?_
  refine sh_iload_n dc_Law_release_5 rfl rfl ?_
  refine sh_iload_n dc_Law_release_6 rfl rfl ?_
  refine sh_callC (sh_virt (As := [.int p0, .int p1, .int p2]) dc_Law_release_7 lm_Hall_release ln_Law_29 wd_625 wd_626 rfl rfl (Nat.le_of_ble_eq_true rfl) f0 rfl) hM ⟨by decide, Nat.le_of_ble_eq_true rfl, by decide, by decide⟩ [] ⟨0, 12, 15, 13⟩ [⟨0, 12, 19, 15⟩, ⟨0, 12, 23, 17⟩, ⟨0, 12, 27, 27⟩] rfl (fun z hz => by cases hz) rfl (by decide) wd_183 wd_195 ?_
  intro y2 n2
  refine sh_astore dc_Law_release_15 (by decide) ?_
  refine sh_iconst (v := 1) dc_Law_release_17 (by decide) ?_
  exact sh_VEQ (sh_ireturn dc_Law_release_18 rfl rfl (by decide) (by decide)) rfl
theorem lt_release_2 {h h1 : sh_Hp} {n a : Nat} {fs : List Value} {p0 : Int32} {p1 : Int32} {p2 : Int32} {oa : Nat} (f0 : h a = some (false, 0, fs)) (hM : sh_M md_Hall_release [.ref a, .int p0, .int p1, .int p2] (n, h) (.inr (2, h1))) : sh_QM md_Law_release [.ref a, .int p0, .int p1, .int p2, .ref oa] (n, h) (some (.int 2)) (fun h' => h' = h1) := by
  refine sh_aload dc_Law_release_0 rfl ?_
  refine sh_iconst (v := 0) dc_Law_release_2 (by decide) ?_
  refine sh_aload_n dc_Law_release_3 rfl rfl ?_
  refine sh_iload_n dc_Law_release_4 rfl rfl ?_
  refine sh_iload_n dc_Law_release_5 rfl rfl ?_
  refine sh_iload_n dc_Law_release_6 rfl rfl ?_
  refine sh_callC (sh_virt (As := [.int p0, .int p1, .int p2]) dc_Law_release_7 lm_Hall_release ln_Law_29 wd_625 wd_626 rfl rfl (Nat.le_of_ble_eq_true rfl) f0 rfl) hM ⟨by decide, Nat.le_of_ble_eq_true rfl, by decide, by decide⟩ [⟨0, 12, 15, 13⟩] ⟨0, 12, 19, 15⟩ [⟨0, 12, 23, 17⟩, ⟨0, 12, 27, 27⟩] rfl (fun z hz => by
    simp only [List.mem_cons, List.not_mem_nil, or_false] at hz
    rcases hz with rfl
    · exact .inr ⟨by decide, _, wd_183, wn_4⟩) rfl (by decide) wd_184 wd_276 ?_
  intro y2 n2
  refine sh_astore dc_Law_release_19 (by decide) ?_
  refine sh_iconst (v := 2) dc_Law_release_21 (by decide) ?_
  exact sh_VEQ (sh_ireturn dc_Law_release_22 rfl rfl (by decide) (by decide)) rfl
theorem lt_release_3 {h h1 : sh_Hp} {n a : Nat} {fs : List Value} {p0 : Int32} {p1 : Int32} {p2 : Int32} {oa : Nat} (f0 : h a = some (false, 0, fs)) (hM : sh_M md_Hall_release [.ref a, .int p0, .int p1, .int p2] (n, h) (.inr (3, h1))) : sh_QM md_Law_release [.ref a, .int p0, .int p1, .int p2, .ref oa] (n, h) (some (.int 3)) (fun h' => h' = h1) := by
  refine sh_aload dc_Law_release_0 rfl ?_
  refine sh_iconst (v := 0) dc_Law_release_2 (by decide) ?_
  refine sh_aload_n dc_Law_release_3 rfl rfl ?_
  refine sh_iload_n dc_Law_release_4 rfl rfl ?_
  refine sh_iload_n dc_Law_release_5 rfl rfl ?_
  refine sh_iload_n dc_Law_release_6 rfl rfl ?_
  refine sh_callC (sh_virt (As := [.int p0, .int p1, .int p2]) dc_Law_release_7 lm_Hall_release ln_Law_29 wd_625 wd_626 rfl rfl (Nat.le_of_ble_eq_true rfl) f0 rfl) hM ⟨by decide, Nat.le_of_ble_eq_true rfl, by decide, by decide⟩ [⟨0, 12, 15, 13⟩, ⟨0, 12, 19, 15⟩] ⟨0, 12, 23, 17⟩ [⟨0, 12, 27, 27⟩] rfl (fun z hz => by
    simp only [List.mem_cons, List.not_mem_nil, or_false] at hz
    rcases hz with rfl | rfl
    · exact .inr ⟨by decide, _, wd_183, wn_5⟩
    · exact .inr ⟨by decide, _, wd_184, wn_19⟩) rfl (by decide) wd_185 wd_294 ?_
  intro y2 n2
  refine sh_astore dc_Law_release_23 (by decide) ?_
  refine sh_iconst (v := 3) dc_Law_release_25 (by decide) ?_
  exact sh_VEQ (sh_ireturn dc_Law_release_26 rfl rfl (by decide) (by decide)) rfl
theorem lt_release_4 {h h1 : sh_Hp} {n a : Nat} {fs : List Value} {p0 : Int32} {p1 : Int32} {p2 : Int32} {oa : Nat} (f0 : h a = some (false, 0, fs)) (hM : sh_M md_Hall_release [.ref a, .int p0, .int p1, .int p2] (n, h) (.inr (4, h1))) : sh_QM md_Law_release [.ref a, .int p0, .int p1, .int p2, .ref oa] (n, h) (some (.int 4)) (fun h' => h' = h1) := by
  refine sh_aload dc_Law_release_0 rfl ?_
  refine sh_iconst (v := 0) dc_Law_release_2 (by decide) ?_
  refine sh_aload_n dc_Law_release_3 rfl rfl ?_
  refine sh_iload_n dc_Law_release_4 rfl rfl ?_
  refine sh_iload_n dc_Law_release_5 rfl rfl ?_
  refine sh_iload_n dc_Law_release_6 rfl rfl ?_
  refine sh_callC (sh_virt (As := [.int p0, .int p1, .int p2]) dc_Law_release_7 lm_Hall_release ln_Law_29 wd_625 wd_626 rfl rfl (Nat.le_of_ble_eq_true rfl) f0 rfl) hM ⟨by decide, Nat.le_of_ble_eq_true rfl, by decide, by decide⟩ [⟨0, 12, 15, 13⟩, ⟨0, 12, 19, 15⟩, ⟨0, 12, 23, 17⟩] ⟨0, 12, 27, 27⟩ [] rfl (fun z hz => by
    simp only [List.mem_cons, List.not_mem_nil, or_false] at hz
    rcases hz with rfl | rfl | rfl
    · exact .inr ⟨by decide, _, wd_183, wn_12⟩
    · exact .inr ⟨by decide, _, wd_184, wn_26⟩
    · exact .inr ⟨by decide, _, wd_185, wn_40⟩) rfl (by decide) wd_457 wd_476 ?_
  intro y2 n2
  refine sh_astore dc_Law_release_27 (by decide) ?_
  refine sh_iconst (v := 4) dc_Law_release_29 (by decide) ?_
  exact sh_VEQ (sh_ireturn dc_Law_release_30 rfl rfl (by decide) (by decide)) rfl
theorem lr_await {h h1 : sh_Hp} {n n1 a : Nat} {fs : List Value} {p0 : Int32} {p1 : Int32} {p2 : UInt64} {v : Int32} {y : Int64} {oa : Nat} (f0 : h a = some (false, 0, fs)) (hM : sh_M md_Hall_await [.ref a, .int p0, .int p1, .double p2] (n, h) (.inl (some (.int v), (n1, h1)))) (fo : h1 oa = some (true, 1, [.long y])) : sh_QM md_Law_await [.ref a, .int p0, .int p1, .double p2, .ref oa] (n, h) (some (.int 0)) (fun h' => h' = sh_up h1 oa (true, 1, [.long v.toInt64])) := by
  refine sh_aload dc_Law_await_0 rfl ?_
  refine sh_iconst (v := 0) dc_Law_await_2 (by decide) ?_
  refine sh_aload_n dc_Law_await_3 rfl rfl ?_
  refine sh_iload_n dc_Law_await_4 rfl rfl ?_
  refine sh_iload_n dc_Law_await_5 rfl rfl ?_
  refine sh_dload_n dc_Law_await_6 rfl rfl ?_
  refine sh_callR (sh_virt (As := [.int p0, .int p1, .double p2]) dc_Law_await_7 lm_Hall_await ln_Law_32 wd_728 wd_729 rfl rfl (Nat.le_of_ble_eq_true rfl) f0 rfl) hM ⟨by decide, Nat.le_of_ble_eq_true rfl, by decide, by decide⟩ ?_
  refine sh_i2l dc_Law_await_10 ?_
  refine sh_last (i := 0) dc_Law_await_11 fo rfl (by decide) rfl ?_
  refine sh_goto_ (tgt := 31) dc_Law_await_12 (by decide) ?_
  refine sh_iconst (v := 0) dc_Law_await_31 (by decide) ?_
  exact sh_VEQ (sh_ireturn dc_Law_await_32 rfl rfl (by decide) (by decide)) rfl
theorem lt_await_1 {h h1 : sh_Hp} {n a : Nat} {fs : List Value} {p0 : Int32} {p1 : Int32} {p2 : UInt64} {oa : Nat} (f0 : h a = some (false, 0, fs)) (hM : sh_M md_Hall_await [.ref a, .int p0, .int p1, .double p2] (n, h) (.inr (1, h1))) : sh_QM md_Law_await [.ref a, .int p0, .int p1, .double p2, .ref oa] (n, h) (some (.int 1)) (fun h' => h' = h1) := by
  refine sh_aload dc_Law_await_0 rfl ?_
  refine sh_iconst (v := 0) dc_Law_await_2 (by decide) ?_
  refine sh_aload_n dc_Law_await_3 rfl rfl ?_
  refine sh_iload_n dc_Law_await_4 rfl rfl ?_
  refine sh_iload_n dc_Law_await_5 rfl rfl ?_
  refine sh_dload_n dc_Law_await_6 rfl rfl ?_
  refine sh_callC (sh_virt (As := [.int p0, .int p1, .double p2]) dc_Law_await_7 lm_Hall_await ln_Law_32 wd_728 wd_729 rfl rfl (Nat.le_of_ble_eq_true rfl) f0 rfl) hM ⟨by decide, Nat.le_of_ble_eq_true rfl, by decide, by decide⟩ [] ⟨0, 12, 15, 13⟩ [⟨0, 12, 19, 15⟩, ⟨0, 12, 23, 17⟩, ⟨0, 12, 27, 27⟩] rfl (fun z hz => by cases hz) rfl (by decide) wd_183 wd_195 ?_
  intro y2 n2
  refine sh_astore dc_Law_await_15 (by decide) ?_
  refine sh_iconst (v := 1) dc_Law_await_17 (by decide) ?_
  exact sh_VEQ (sh_ireturn dc_Law_await_18 rfl rfl (by decide) (by decide)) rfl
theorem lt_await_2 {h h1 : sh_Hp} {n a : Nat} {fs : List Value} {p0 : Int32} {p1 : Int32} {p2 : UInt64} {oa : Nat} (f0 : h a = some (false, 0, fs)) (hM : sh_M md_Hall_await [.ref a, .int p0, .int p1, .double p2] (n, h) (.inr (2, h1))) : sh_QM md_Law_await [.ref a, .int p0, .int p1, .double p2, .ref oa] (n, h) (some (.int 2)) (fun h' => h' = h1) := by
  refine sh_aload dc_Law_await_0 rfl ?_
  refine sh_iconst (v := 0) dc_Law_await_2 (by decide) ?_
  refine sh_aload_n dc_Law_await_3 rfl rfl ?_
  refine sh_iload_n dc_Law_await_4 rfl rfl ?_
  refine sh_iload_n dc_Law_await_5 rfl rfl ?_
  refine sh_dload_n dc_Law_await_6 rfl rfl ?_
  refine sh_callC (sh_virt (As := [.int p0, .int p1, .double p2]) dc_Law_await_7 lm_Hall_await ln_Law_32 wd_728 wd_729 rfl rfl (Nat.le_of_ble_eq_true rfl) f0 rfl) hM ⟨by decide, Nat.le_of_ble_eq_true rfl, by decide, by decide⟩ [⟨0, 12, 15, 13⟩] ⟨0, 12, 19, 15⟩ [⟨0, 12, 23, 17⟩, ⟨0, 12, 27, 27⟩] rfl (fun z hz => by
    simp only [List.mem_cons, List.not_mem_nil, or_false] at hz
    rcases hz with rfl
    · exact .inr ⟨by decide, _, wd_183, wn_4⟩) rfl (by decide) wd_184 wd_276 ?_
  intro y2 n2
  refine sh_astore dc_Law_await_19 (by decide) ?_
  refine sh_iconst (v := 2) dc_Law_await_21 (by decide) ?_
  exact sh_VEQ (sh_ireturn dc_Law_await_22 rfl rfl (by decide) (by decide)) rfl
theorem lt_await_3 {h h1 : sh_Hp} {n a : Nat} {fs : List Value} {p0 : Int32} {p1 : Int32} {p2 : UInt64} {oa : Nat} (f0 : h a = some (false, 0, fs)) (hM : sh_M md_Hall_await [.ref a, .int p0, .int p1, .double p2] (n, h) (.inr (3, h1))) : sh_QM md_Law_await [.ref a, .int p0, .int p1, .double p2, .ref oa] (n, h) (some (.int 3)) (fun h' => h' = h1) := by
  refine sh_aload dc_Law_await_0 rfl ?_
  refine sh_iconst (v := 0) dc_Law_await_2 (by decide) ?_
  refine sh_aload_n dc_Law_await_3 rfl rfl ?_
  refine sh_iload_n dc_Law_await_4 rfl rfl ?_
  refine sh_iload_n dc_Law_await_5 rfl rfl ?_
  refine sh_dload_n dc_Law_await_6 rfl rfl ?_
  refine sh_callC (sh_virt (As := [.int p0, .int p1, .double p2]) dc_Law_await_7 lm_Hall_await ln_Law_32 wd_728 wd_729 rfl rfl (Nat.le_of_ble_eq_true rfl) f0 rfl) hM ⟨by decide, Nat.le_of_ble_eq_true rfl, by decide, by decide⟩ [⟨0, 12, 15, 13⟩, ⟨0, 12, 19, 15⟩] ⟨0, 12, 23, 17⟩ [⟨0, 12, 27, 27⟩] rfl (fun z hz => by
    simp only [List.mem_cons, List.not_mem_nil, or_false] at hz
    rcases hz with rfl | rfl
    · exact .inr ⟨by decide, _, wd_183, wn_5⟩
    · exact .inr ⟨by decide, _, wd_184, wn_19⟩) rfl (by decide) wd_185 wd_294 ?_
  intro y2 n2
  refine sh_astore dc_Law_await_23 (by decide) ?_
  refine sh_iconst (v := 3) dc_Law_await_25 (by decide) ?_
  exact sh_VEQ (sh_ireturn dc_Law_await_26 rfl rfl (by decide) (by decide)) rfl
theorem lt_await_4 {h h1 : sh_Hp} {n a : Nat} {fs : List Value} {p0 : Int32} {p1 : Int32} {p2 : UInt64} {oa : Nat} (f0 : h a = some (false, 0, fs)) (hM : sh_M md_Hall_await [.ref a, .int p0, .int p1, .double p2] (n, h) (.inr (4, h1))) : sh_QM md_Law_await [.ref a, .int p0, .int p1, .double p2, .ref oa] (n, h) (some (.int 4)) (fun h' => h' = h1) := by
  refine sh_aload dc_Law_await_0 rfl ?_
  refine sh_iconst (v := 0) dc_Law_await_2 (by decide) ?_
  refine sh_aload_n dc_Law_await_3 rfl rfl ?_
  refine sh_iload_n dc_Law_await_4 rfl rfl ?_
  refine sh_iload_n dc_Law_await_5 rfl rfl ?_
  refine sh_dload_n dc_Law_await_6 rfl rfl ?_
  refine sh_callC (sh_virt (As := [.int p0, .int p1, .double p2]) dc_Law_await_7 lm_Hall_await ln_Law_32 wd_728 wd_729 rfl rfl (Nat.le_of_ble_eq_true rfl) f0 rfl) hM ⟨by decide, Nat.le_of_ble_eq_true rfl, by decide, by decide⟩ [⟨0, 12, 15, 13⟩, ⟨0, 12, 19, 15⟩, ⟨0, 12, 23, 17⟩] ⟨0, 12, 27, 27⟩ [] rfl (fun z hz => by
    simp only [List.mem_cons, List.not_mem_nil, or_false] at hz
    rcases hz with rfl | rfl | rfl
    · exact .inr ⟨by decide, _, wd_183, wn_12⟩
    · exact .inr ⟨by decide, _, wd_184, wn_26⟩
    · exact .inr ⟨by decide, _, wd_185, wn_40⟩) rfl (by decide) wd_457 wd_476 ?_
  intro y2 n2
  refine sh_astore dc_Law_await_27 (by decide) ?_
  refine sh_iconst (v := 4) dc_Law_await_29 (by decide) ?_
  exact sh_VEQ (sh_ireturn dc_Law_await_30 rfl rfl (by decide) (by decide)) rfl
theorem lr_signal {h h1 : sh_Hp} {n n1 a : Nat} {fs : List Value} {p0 : Int32} {p1 : Int32} {p2 : Int32} {v : Int32} {y : Int64} {oa : Nat} (f0 : h a = some (false, 0, fs)) (hM : sh_M md_Hall_signal [.ref a, .int p0, .int p1, .int p2] (n, h) (.inl (some (.int v), (n1, h1)))) (fo : h1 oa = some (true, 1, [.long y])) : sh_QM md_Law_signal [.ref a, .int p0, .int p1, .int p2, .ref oa] (n, h) (some (.int 0)) (fun h' => h' = sh_up h1 oa (true, 1, [.long v.toInt64])) := by
  refine sh_aload dc_Law_signal_0 rfl ?_
  refine sh_iconst (v := 0) dc_Law_signal_2 (by decide) ?_
  refine sh_aload_n dc_Law_signal_3 rfl rfl ?_
  refine sh_iload_n dc_Law_signal_4 rfl rfl ?_
  refine sh_iload_n dc_Law_signal_5 rfl rfl ?_
  refine sh_iload_n dc_Law_signal_6 rfl rfl ?_
  refine sh_callR (sh_virt (As := [.int p0, .int p1, .int p2]) dc_Law_signal_7 lm_Hall_signal ln_Law_36 wd_756 wd_757 rfl rfl (Nat.le_of_ble_eq_true rfl) f0 rfl) hM ⟨by decide, Nat.le_of_ble_eq_true rfl, by decide, by decide⟩ ?_
  refine sh_i2l dc_Law_signal_10 ?_
  refine sh_last (i := 0) dc_Law_signal_11 fo rfl (by decide) rfl ?_
  refine sh_goto_ (tgt := 31) dc_Law_signal_12 (by decide) ?_
  refine sh_iconst (v := 0) dc_Law_signal_31 (by decide) ?_
  exact sh_VEQ (sh_ireturn dc_Law_signal_32 rfl rfl (by decide) (by decide)) rfl
theorem lt_signal_1 {h h1 : sh_Hp} {n a : Nat} {fs : List Value} {p0 : Int32} {p1 : Int32} {p2 : Int32} {oa : Nat} (f0 : h a = some (false, 0, fs)) (hM : sh_M md_Hall_signal [.ref a, .int p0, .int p1, .int p2] (n, h) (.inr (1, h1))) : sh_QM md_Law_signal [.ref a, .int p0, .int p1, .int p2, .ref oa] (n, h) (some (.int 1)) (fun h' => h' = h1) := by
  refine sh_aload dc_Law_signal_0 rfl ?_
  refine sh_iconst (v := 0) dc_Law_signal_2 (by decide) ?_
  refine sh_aload_n dc_Law_signal_3 rfl rfl ?_
  refine sh_iload_n dc_Law_signal_4 rfl rfl ?_
  refine sh_iload_n dc_Law_signal_5 rfl rfl ?_
  refine sh_iload_n dc_Law_signal_6 rfl rfl ?_
  refine sh_callC (sh_virt (As := [.int p0, .int p1, .int p2]) dc_Law_signal_7 lm_Hall_signal ln_Law_36 wd_756 wd_757 rfl rfl (Nat.le_of_ble_eq_true rfl) f0 rfl) hM ⟨by decide, Nat.le_of_ble_eq_true rfl, by decide, by decide⟩ [] ⟨0, 12, 15, 13⟩ [⟨0, 12, 19, 15⟩, ⟨0, 12, 23, 17⟩, ⟨0, 12, 27, 27⟩] rfl (fun z hz => by cases hz) rfl (by decide) wd_183 wd_195 ?_
  intro y2 n2
  refine sh_astore dc_Law_signal_15 (by decide) ?_
  refine sh_iconst (v := 1) dc_Law_signal_17 (by decide) ?_
  exact sh_VEQ (sh_ireturn dc_Law_signal_18 rfl rfl (by decide) (by decide)) rfl
theorem lt_signal_2 {h h1 : sh_Hp} {n a : Nat} {fs : List Value} {p0 : Int32} {p1 : Int32} {p2 : Int32} {oa : Nat} (f0 : h a = some (false, 0, fs)) (hM : sh_M md_Hall_signal [.ref a, .int p0, .int p1, .int p2] (n, h) (.inr (2, h1))) : sh_QM md_Law_signal [.ref a, .int p0, .int p1, .int p2, .ref oa] (n, h) (some (.int 2)) (fun h' => h' = h1) := by
  refine sh_aload dc_Law_signal_0 rfl ?_
  refine sh_iconst (v := 0) dc_Law_signal_2 (by decide) ?_
  refine sh_aload_n dc_Law_signal_3 rfl rfl ?_
  refine sh_iload_n dc_Law_signal_4 rfl rfl ?_
  refine sh_iload_n dc_Law_signal_5 rfl rfl ?_
  refine sh_iload_n dc_Law_signal_6 rfl rfl ?_
  refine sh_callC (sh_virt (As := [.int p0, .int p1, .int p2]) dc_Law_signal_7 lm_Hall_signal ln_Law_36 wd_756 wd_757 rfl rfl (Nat.le_of_ble_eq_true rfl) f0 rfl) hM ⟨by decide, Nat.le_of_ble_eq_true rfl, by decide, by decide⟩ [⟨0, 12, 15, 13⟩] ⟨0, 12, 19, 15⟩ [⟨0, 12, 23, 17⟩, ⟨0, 12, 27, 27⟩] rfl (fun z hz => by
    simp only [List.mem_cons, List.not_mem_nil, or_false] at hz
    rcases hz with rfl
    · exact .inr ⟨by decide, _, wd_183, wn_4⟩) rfl (by decide) wd_184 wd_276 ?_
  intro y2 n2
  refine sh_astore dc_Law_signal_19 (by decide) ?_
  refine sh_iconst (v := 2) dc_Law_signal_21 (by decide) ?_
  exact sh_VEQ (sh_ireturn dc_Law_signal_22 rfl rfl (by decide) (by decide)) rfl
theorem lt_signal_3 {h h1 : sh_Hp} {n a : Nat} {fs : List Value} {p0 : Int32} {p1 : Int32} {p2 : Int32} {oa : Nat} (f0 : h a = some (false, 0, fs)) (hM : sh_M md_Hall_signal [.ref a, .int p0, .int p1, .int p2] (n, h) (.inr (3, h1))) : sh_QM md_Law_signal [.ref a, .int p0, .int p1, .int p2, .ref oa] (n, h) (some (.int 3)) (fun h' => h' = h1) := by
  refine sh_aload dc_Law_signal_0 rfl ?_
  refine sh_iconst (v := 0) dc_Law_signal_2 (by decide) ?_
  refine sh_aload_n dc_Law_signal_3 rfl rfl ?_
  refine sh_iload_n dc_Law_signal_4 rfl rfl ?_
  refine sh_iload_n dc_Law_signal_5 rfl rfl ?_
  refine sh_iload_n dc_Law_signal_6 rfl rfl ?_
  refine sh_callC (sh_virt (As := [.int p0, .int p1, .int p2]) dc_Law_signal_7 lm_Hall_signal ln_Law_36 wd_756 wd_757 rfl rfl (Nat.le_of_ble_eq_true rfl) f0 rfl) hM ⟨by decide, Nat.le_of_ble_eq_true rfl, by decide, by decide⟩ [⟨0, 12, 15, 13⟩, ⟨0, 12, 19, 15⟩] ⟨0, 12, 23, 17⟩ [⟨0, 12, 27, 27⟩] rfl (fun z hz => by
    simp only [List.mem_cons, List.not_mem_nil, or_false] at hz
    rcases hz with rfl | rfl
    · exact .inr ⟨by decide, _, wd_183, wn_5⟩
    · exact .inr ⟨by decide, _, wd_184, wn_19⟩) rfl (by decide) wd_185 wd_294 ?_
  intro y2 n2
  refine sh_astore dc_Law_signal_23 (by decide) ?_
  refine sh_iconst (v := 3) dc_Law_signal_25 (by decide) ?_
  exact sh_VEQ (sh_ireturn dc_Law_signal_26 rfl rfl (by decide) (by decide)) rfl
theorem lt_signal_4 {h h1 : sh_Hp} {n a : Nat} {fs : List Value} {p0 : Int32} {p1 : Int32} {p2 : Int32} {oa : Nat} (f0 : h a = some (false, 0, fs)) (hM : sh_M md_Hall_signal [.ref a, .int p0, .int p1, .int p2] (n, h) (.inr (4, h1))) : sh_QM md_Law_signal [.ref a, .int p0, .int p1, .int p2, .ref oa] (n, h) (some (.int 4)) (fun h' => h' = h1) := by
  refine sh_aload dc_Law_signal_0 rfl ?_
  refine sh_iconst (v := 0) dc_Law_signal_2 (by decide) ?_
  refine sh_aload_n dc_Law_signal_3 rfl rfl ?_
  refine sh_iload_n dc_Law_signal_4 rfl rfl ?_
  refine sh_iload_n dc_Law_signal_5 rfl rfl ?_
  refine sh_iload_n dc_Law_signal_6 rfl rfl ?_
  refine sh_callC (sh_virt (As := [.int p0, .int p1, .int p2]) dc_Law_signal_7 lm_Hall_signal ln_Law_36 wd_756 wd_757 rfl rfl (Nat.le_of_ble_eq_true rfl) f0 rfl) hM ⟨by decide, Nat.le_of_ble_eq_true rfl, by decide, by decide⟩ [⟨0, 12, 15, 13⟩, ⟨0, 12, 19, 15⟩, ⟨0, 12, 23, 17⟩] ⟨0, 12, 27, 27⟩ [] rfl (fun z hz => by
    simp only [List.mem_cons, List.not_mem_nil, or_false] at hz
    rcases hz with rfl | rfl | rfl
    · exact .inr ⟨by decide, _, wd_183, wn_12⟩
    · exact .inr ⟨by decide, _, wd_184, wn_26⟩
    · exact .inr ⟨by decide, _, wd_185, wn_40⟩) rfl (by decide) wd_457 wd_476 ?_
  intro y2 n2
  refine sh_astore dc_Law_signal_27 (by decide) ?_
  refine sh_iconst (v := 4) dc_Law_signal_29 (by decide) ?_
  exact sh_VEQ (sh_ireturn dc_Law_signal_30 rfl rfl (by decide) (by decide)) rfl
theorem lr_interrupt {h h1 : sh_Hp} {n n1 a : Nat} {fs : List Value} {p0 : Int32} {v : Int32} {y : Int64} {oa : Nat} (f0 : h a = some (false, 0, fs)) (hM : sh_M md_Hall_interrupt [.ref a, .int p0] (n, h) (.inl (some (.int v), (n1, h1)))) (fo : h1 oa = some (true, 1, [.long y])) : sh_QM md_Law_interrupt [.ref a, .int p0, .ref oa] (n, h) (some (.int 0)) (fun h' => h' = sh_up h1 oa (true, 1, [.long v.toInt64])) := by
  refine sh_aload_n dc_Law_interrupt_0 rfl rfl ?_
  refine sh_iconst (v := 0) dc_Law_interrupt_1 (by decide) ?_
  refine sh_aload_n dc_Law_interrupt_2 rfl rfl ?_
  refine sh_iload_n dc_Law_interrupt_3 rfl rfl ?_
  refine sh_callR (sh_virt (As := [.int p0]) dc_Law_interrupt_4 lm_Hall_interrupt ln_Law_40 wd_774 wd_775 rfl rfl (Nat.le_of_ble_eq_true rfl) f0 rfl) hM ⟨by decide, Nat.le_of_ble_eq_true rfl, by decide, by decide⟩ ?_
  refine sh_i2l dc_Law_interrupt_7 ?_
  refine sh_last (i := 0) dc_Law_interrupt_8 fo rfl (by decide) rfl ?_
  refine sh_goto_ (tgt := 15) dc_Law_interrupt_9 (by decide) ?_
  refine sh_iconst (v := 0) dc_Law_interrupt_15 (by decide) ?_
  exact sh_VEQ (sh_ireturn dc_Law_interrupt_16 rfl rfl (by decide) (by decide)) rfl
theorem lt_interrupt_1 {h h1 : sh_Hp} {n a : Nat} {fs : List Value} {p0 : Int32} {oa : Nat} (f0 : h a = some (false, 0, fs)) (hM : sh_M md_Hall_interrupt [.ref a, .int p0] (n, h) (.inr (1, h1))) : sh_QM md_Law_interrupt [.ref a, .int p0, .ref oa] (n, h) (some (.int 1)) (fun h' => h' = h1) := by
  refine sh_aload_n dc_Law_interrupt_0 rfl rfl ?_
  refine sh_iconst (v := 0) dc_Law_interrupt_1 (by decide) ?_
  refine sh_aload_n dc_Law_interrupt_2 rfl rfl ?_
  refine sh_iload_n dc_Law_interrupt_3 rfl rfl ?_
  refine sh_callC (sh_virt (As := [.int p0]) dc_Law_interrupt_4 lm_Hall_interrupt ln_Law_40 wd_774 wd_775 rfl rfl (Nat.le_of_ble_eq_true rfl) f0 rfl) hM ⟨by decide, Nat.le_of_ble_eq_true rfl, by decide, by decide⟩ [] ⟨0, 9, 12, 13⟩ [] rfl (fun z hz => by cases hz) rfl (by decide) wd_183 wd_195 ?_
  intro y2 n2
  refine sh_astore_n dc_Law_interrupt_12 rfl (by decide) ?_
  refine sh_iconst (v := 1) dc_Law_interrupt_13 (by decide) ?_
  exact sh_VEQ (sh_ireturn dc_Law_interrupt_14 rfl rfl (by decide) (by decide)) rfl
theorem lr_tick {h h1 : sh_Hp} {n n1 a : Nat} {fs : List Value} {p0 : UInt64} {v : Int32} {y : Int64} {oa : Nat} (f0 : h a = some (false, 0, fs)) (hM : sh_M md_Hall_tick [.ref a, .double p0] (n, h) (.inl (some (.int v), (n1, h1)))) (fo : h1 oa = some (true, 1, [.long y])) : sh_QM md_Law_tick [.ref a, .double p0, .ref oa] (n, h) (some (.int 0)) (fun h' => h' = sh_up h1 oa (true, 1, [.long v.toInt64])) := by
  refine sh_aload_n dc_Law_tick_0 rfl rfl ?_
  refine sh_iconst (v := 0) dc_Law_tick_1 (by decide) ?_
  refine sh_aload_n dc_Law_tick_2 rfl rfl ?_
  refine sh_dload_n dc_Law_tick_3 rfl rfl ?_
  refine sh_callR (sh_virt (As := [.double p0]) dc_Law_tick_4 lm_Hall_tick ln_Law_44 wd_786 wd_787 rfl rfl (Nat.le_of_ble_eq_true rfl) f0 rfl) hM ⟨by decide, Nat.le_of_ble_eq_true rfl, by decide, by decide⟩ ?_
  refine sh_i2l dc_Law_tick_7 ?_
  refine sh_last (i := 0) dc_Law_tick_8 fo rfl (by decide) rfl ?_
  refine sh_goto_ (tgt := 16) dc_Law_tick_9 (by decide) ?_
  refine sh_iconst (v := 0) dc_Law_tick_16 (by decide) ?_
  exact sh_VEQ (sh_ireturn dc_Law_tick_17 rfl rfl (by decide) (by decide)) rfl
theorem lt_tick_1 {h h1 : sh_Hp} {n a : Nat} {fs : List Value} {p0 : UInt64} {oa : Nat} (f0 : h a = some (false, 0, fs)) (hM : sh_M md_Hall_tick [.ref a, .double p0] (n, h) (.inr (1, h1))) : sh_QM md_Law_tick [.ref a, .double p0, .ref oa] (n, h) (some (.int 1)) (fun h' => h' = h1) := by
  refine sh_aload_n dc_Law_tick_0 rfl rfl ?_
  refine sh_iconst (v := 0) dc_Law_tick_1 (by decide) ?_
  refine sh_aload_n dc_Law_tick_2 rfl rfl ?_
  refine sh_dload_n dc_Law_tick_3 rfl rfl ?_
  refine sh_callC (sh_virt (As := [.double p0]) dc_Law_tick_4 lm_Hall_tick ln_Law_44 wd_786 wd_787 rfl rfl (Nat.le_of_ble_eq_true rfl) f0 rfl) hM ⟨by decide, Nat.le_of_ble_eq_true rfl, by decide, by decide⟩ [] ⟨0, 9, 12, 13⟩ [] rfl (fun z hz => by cases hz) rfl (by decide) wd_183 wd_195 ?_
  intro y2 n2
  refine sh_astore dc_Law_tick_12 (by decide) ?_
  refine sh_iconst (v := 1) dc_Law_tick_14 (by decide) ?_
  exact sh_VEQ (sh_ireturn dc_Law_tick_15 rfl rfl (by decide) (by decide)) rfl
theorem lr_policy {h h1 : sh_Hp} {n n1 a : Nat} {fs : List Value} {p0 : Int32} {v : Int32} {y : Int64} {oa : Nat} (f0 : h a = some (false, 0, fs)) (hM : sh_M md_Hall_policy [.ref a, .int p0] (n, h) (.inl (some (.int v), (n1, h1)))) (fo : h1 oa = some (true, 1, [.long y])) : sh_QM md_Law_policy [.ref a, .int p0, .ref oa] (n, h) (some (.int 0)) (fun h' => h' = sh_up h1 oa (true, 1, [.long v.toInt64])) := by
  refine sh_aload_n dc_Law_policy_0 rfl rfl ?_
  refine sh_iconst (v := 0) dc_Law_policy_1 (by decide) ?_
  refine sh_aload_n dc_Law_policy_2 rfl rfl ?_
  refine sh_iload_n dc_Law_policy_3 rfl rfl ?_
  refine sh_callR (sh_virt (As := [.int p0]) dc_Law_policy_4 lm_Hall_policy ln_Law_48 wd_797 wd_798 rfl rfl (Nat.le_of_ble_eq_true rfl) f0 rfl) hM ⟨by decide, Nat.le_of_ble_eq_true rfl, by decide, by decide⟩ ?_
  refine sh_i2l dc_Law_policy_7 ?_
  refine sh_last (i := 0) dc_Law_policy_8 fo rfl (by decide) rfl ?_
  refine sh_goto_ (tgt := 15) dc_Law_policy_9 (by decide) ?_
  refine sh_iconst (v := 0) dc_Law_policy_15 (by decide) ?_
  exact sh_VEQ (sh_ireturn dc_Law_policy_16 rfl rfl (by decide) (by decide)) rfl
theorem lt_policy_1 {h h1 : sh_Hp} {n a : Nat} {fs : List Value} {p0 : Int32} {oa : Nat} (f0 : h a = some (false, 0, fs)) (hM : sh_M md_Hall_policy [.ref a, .int p0] (n, h) (.inr (1, h1))) : sh_QM md_Law_policy [.ref a, .int p0, .ref oa] (n, h) (some (.int 1)) (fun h' => h' = h1) := by
  refine sh_aload_n dc_Law_policy_0 rfl rfl ?_
  refine sh_iconst (v := 0) dc_Law_policy_1 (by decide) ?_
  refine sh_aload_n dc_Law_policy_2 rfl rfl ?_
  refine sh_iload_n dc_Law_policy_3 rfl rfl ?_
  refine sh_callC (sh_virt (As := [.int p0]) dc_Law_policy_4 lm_Hall_policy ln_Law_48 wd_797 wd_798 rfl rfl (Nat.le_of_ble_eq_true rfl) f0 rfl) hM ⟨by decide, Nat.le_of_ble_eq_true rfl, by decide, by decide⟩ [] ⟨0, 9, 12, 13⟩ [] rfl (fun z hz => by cases hz) rfl (by decide) wd_183 wd_195 ?_
  intro y2 n2
  refine sh_astore_n dc_Law_policy_12 rfl (by decide) ?_
  refine sh_iconst (v := 1) dc_Law_policy_13 (by decide) ?_
  exact sh_VEQ (sh_ireturn dc_Law_policy_14 rfl rfl (by decide) (by decide)) rfl
theorem lr_thread {h h1 : sh_Hp} {n n1 a : Nat} {fs : List Value} {p0 : Int32} {p1 : Int32} {v : Int32} {y : Int64} {oa : Nat} (f0 : h a = some (false, 0, fs)) (hM : sh_M md_Hall_thread [.ref a, .int p0, .int p1] (n, h) (.inl (some (.int v), (n1, h1)))) (fo : h1 oa = some (true, 1, [.long y])) : sh_QM md_Law_thread [.ref a, .int p0, .int p1, .ref oa] (n, h) (some (.int 0)) (fun h' => h' = sh_up h1 oa (true, 1, [.long v.toInt64])) := by
  refine sh_aload_n dc_Law_thread_0 rfl rfl ?_
  refine sh_iconst (v := 0) dc_Law_thread_1 (by decide) ?_
  refine sh_aload_n dc_Law_thread_2 rfl rfl ?_
  refine sh_iload_n dc_Law_thread_3 rfl rfl ?_
  refine sh_iload_n dc_Law_thread_4 rfl rfl ?_
  refine sh_callR (sh_virt (As := [.int p0, .int p1]) dc_Law_thread_5 lm_Hall_thread ln_Law_51 wd_804 wd_805 rfl rfl (Nat.le_of_ble_eq_true rfl) f0 rfl) hM ⟨by decide, Nat.le_of_ble_eq_true rfl, by decide, by decide⟩ ?_
  refine sh_i2l dc_Law_thread_8 ?_
  refine sh_last (i := 0) dc_Law_thread_9 fo rfl (by decide) rfl ?_
  refine sh_goto_ (tgt := 17) dc_Law_thread_10 (by decide) ?_
  refine sh_iconst (v := 0) dc_Law_thread_17 (by decide) ?_
  exact sh_VEQ (sh_ireturn dc_Law_thread_18 rfl rfl (by decide) (by decide)) rfl
theorem lt_thread_1 {h h1 : sh_Hp} {n a : Nat} {fs : List Value} {p0 : Int32} {p1 : Int32} {oa : Nat} (f0 : h a = some (false, 0, fs)) (hM : sh_M md_Hall_thread [.ref a, .int p0, .int p1] (n, h) (.inr (1, h1))) : sh_QM md_Law_thread [.ref a, .int p0, .int p1, .ref oa] (n, h) (some (.int 1)) (fun h' => h' = h1) := by
  refine sh_aload_n dc_Law_thread_0 rfl rfl ?_
  refine sh_iconst (v := 0) dc_Law_thread_1 (by decide) ?_
  refine sh_aload_n dc_Law_thread_2 rfl rfl ?_
  refine sh_iload_n dc_Law_thread_3 rfl rfl ?_
  refine sh_iload_n dc_Law_thread_4 rfl rfl ?_
  refine sh_callC (sh_virt (As := [.int p0, .int p1]) dc_Law_thread_5 lm_Hall_thread ln_Law_51 wd_804 wd_805 rfl rfl (Nat.le_of_ble_eq_true rfl) f0 rfl) hM ⟨by decide, Nat.le_of_ble_eq_true rfl, by decide, by decide⟩ [] ⟨0, 10, 13, 13⟩ [] rfl (fun z hz => by cases hz) rfl (by decide) wd_183 wd_195 ?_
  intro y2 n2
  refine sh_astore dc_Law_thread_13 (by decide) ?_
  refine sh_iconst (v := 1) dc_Law_thread_15 (by decide) ?_
  exact sh_VEQ (sh_ireturn dc_Law_thread_16 rfl rfl (by decide) (by decide)) rfl
theorem lr_sync {h h1 : sh_Hp} {n n1 a : Nat} {fs : List Value} {p0 : Int32} {p1 : Int32} {v : Int32} {y : Int64} {oa : Nat} (f0 : h a = some (false, 0, fs)) (hM : sh_M md_Hall_sync [.ref a, .int p0, .int p1] (n, h) (.inl (some (.int v), (n1, h1)))) (fo : h1 oa = some (true, 1, [.long y])) : sh_QM md_Law_sync [.ref a, .int p0, .int p1, .ref oa] (n, h) (some (.int 0)) (fun h' => h' = sh_up h1 oa (true, 1, [.long v.toInt64])) := by
  refine sh_aload_n dc_Law_sync_0 rfl rfl ?_
  refine sh_iconst (v := 0) dc_Law_sync_1 (by decide) ?_
  refine sh_aload_n dc_Law_sync_2 rfl rfl ?_
  refine sh_iload_n dc_Law_sync_3 rfl rfl ?_
  refine sh_iload_n dc_Law_sync_4 rfl rfl ?_
  refine sh_callR (sh_virt (As := [.int p0, .int p1]) dc_Law_sync_5 lm_Hall_sync ln_Law_55 wd_816 wd_817 rfl rfl (Nat.le_of_ble_eq_true rfl) f0 rfl) hM ⟨by decide, Nat.le_of_ble_eq_true rfl, by decide, by decide⟩ ?_
  refine sh_i2l dc_Law_sync_8 ?_
  refine sh_last (i := 0) dc_Law_sync_9 fo rfl (by decide) rfl ?_
  refine sh_goto_ (tgt := 21) dc_Law_sync_10 (by decide) ?_
  refine sh_iconst (v := 0) dc_Law_sync_21 (by decide) ?_
  exact sh_VEQ (sh_ireturn dc_Law_sync_22 rfl rfl (by decide) (by decide)) rfl
theorem lt_sync_1 {h h1 : sh_Hp} {n a : Nat} {fs : List Value} {p0 : Int32} {p1 : Int32} {oa : Nat} (f0 : h a = some (false, 0, fs)) (hM : sh_M md_Hall_sync [.ref a, .int p0, .int p1] (n, h) (.inr (1, h1))) : sh_QM md_Law_sync [.ref a, .int p0, .int p1, .ref oa] (n, h) (some (.int 1)) (fun h' => h' = h1) := by
  refine sh_aload_n dc_Law_sync_0 rfl rfl ?_
  refine sh_iconst (v := 0) dc_Law_sync_1 (by decide) ?_
  refine sh_aload_n dc_Law_sync_2 rfl rfl ?_
  refine sh_iload_n dc_Law_sync_3 rfl rfl ?_
  refine sh_iload_n dc_Law_sync_4 rfl rfl ?_
  refine sh_callC (sh_virt (As := [.int p0, .int p1]) dc_Law_sync_5 lm_Hall_sync ln_Law_55 wd_816 wd_817 rfl rfl (Nat.le_of_ble_eq_true rfl) f0 rfl) hM ⟨by decide, Nat.le_of_ble_eq_true rfl, by decide, by decide⟩ [] ⟨0, 10, 13, 13⟩ [⟨0, 10, 17, 15⟩] rfl (fun z hz => by cases hz) rfl (by decide) wd_183 wd_195 ?_
  intro y2 n2
  refine sh_astore dc_Law_sync_13 (by decide) ?_
  refine sh_iconst (v := 1) dc_Law_sync_15 (by decide) ?_
  exact sh_VEQ (sh_ireturn dc_Law_sync_16 rfl rfl (by decide) (by decide)) rfl
theorem lt_sync_2 {h h1 : sh_Hp} {n a : Nat} {fs : List Value} {p0 : Int32} {p1 : Int32} {oa : Nat} (f0 : h a = some (false, 0, fs)) (hM : sh_M md_Hall_sync [.ref a, .int p0, .int p1] (n, h) (.inr (2, h1))) : sh_QM md_Law_sync [.ref a, .int p0, .int p1, .ref oa] (n, h) (some (.int 2)) (fun h' => h' = h1) := by
  refine sh_aload_n dc_Law_sync_0 rfl rfl ?_
  refine sh_iconst (v := 0) dc_Law_sync_1 (by decide) ?_
  refine sh_aload_n dc_Law_sync_2 rfl rfl ?_
  refine sh_iload_n dc_Law_sync_3 rfl rfl ?_
  refine sh_iload_n dc_Law_sync_4 rfl rfl ?_
  refine sh_callC (sh_virt (As := [.int p0, .int p1]) dc_Law_sync_5 lm_Hall_sync ln_Law_55 wd_816 wd_817 rfl rfl (Nat.le_of_ble_eq_true rfl) f0 rfl) hM ⟨by decide, Nat.le_of_ble_eq_true rfl, by decide, by decide⟩ [⟨0, 10, 13, 13⟩] ⟨0, 10, 17, 15⟩ [] rfl (fun z hz => by
    simp only [List.mem_cons, List.not_mem_nil, or_false] at hz
    rcases hz with rfl
    · exact .inr ⟨by decide, _, wd_183, wn_4⟩) rfl (by decide) wd_184 wd_276 ?_
  intro y2 n2
  refine sh_astore dc_Law_sync_17 (by decide) ?_
  refine sh_iconst (v := 2) dc_Law_sync_19 (by decide) ?_
  exact sh_VEQ (sh_ireturn dc_Law_sync_20 rfl rfl (by decide) (by decide)) rfl
theorem lr_waited {h h1 : sh_Hp} {n n1 a : Nat} {fs : List Value} {p0 : Int32} {v y : UInt64} {oa : Nat} (f0 : h a = some (false, 0, fs)) (hM : sh_M md_Hall_waited [.ref a, .int p0] (n, h) (.inl (some (.double v), (n1, h1)))) (fo : h1 oa = some (true, 2, [.double y])) : sh_QM md_Law_waited [.ref a, .int p0, .ref oa] (n, h) (some (.int 0)) (fun h' => h' = sh_up h1 oa (true, 2, [.double v])) := by
  refine sh_aload_n dc_Law_waited_0 rfl rfl ?_
  refine sh_iconst (v := 0) dc_Law_waited_1 (by decide) ?_
  refine sh_aload_n dc_Law_waited_2 rfl rfl ?_
  refine sh_iload_n dc_Law_waited_3 rfl rfl ?_
  refine sh_callR (sh_virt (As := [.int p0]) dc_Law_waited_4 lm_Hall_waited ln_Law_58 wd_837 wd_838 rfl rfl (Nat.le_of_ble_eq_true rfl) f0 rfl) hM ⟨by decide, Nat.le_of_ble_eq_true rfl, by decide, by decide⟩ ?_
  refine sh_dast (i := 0) dc_Law_waited_7 fo rfl (by decide) rfl ?_
  refine sh_goto_ (tgt := 20) dc_Law_waited_8 (by decide) ?_
  refine sh_iconst (v := 0) dc_Law_waited_20 (by decide) ?_
  exact sh_VEQ (sh_ireturn dc_Law_waited_21 rfl rfl (by decide) (by decide)) rfl
theorem lt_waited_1 {h h1 : sh_Hp} {n a : Nat} {fs : List Value} {p0 : Int32} {oa : Nat} (f0 : h a = some (false, 0, fs)) (hM : sh_M md_Hall_waited [.ref a, .int p0] (n, h) (.inr (1, h1))) : sh_QM md_Law_waited [.ref a, .int p0, .ref oa] (n, h) (some (.int 1)) (fun h' => h' = h1) := by
  refine sh_aload_n dc_Law_waited_0 rfl rfl ?_
  refine sh_iconst (v := 0) dc_Law_waited_1 (by decide) ?_
  refine sh_aload_n dc_Law_waited_2 rfl rfl ?_
  refine sh_iload_n dc_Law_waited_3 rfl rfl ?_
  refine sh_callC (sh_virt (As := [.int p0]) dc_Law_waited_4 lm_Hall_waited ln_Law_58 wd_837 wd_838 rfl rfl (Nat.le_of_ble_eq_true rfl) f0 rfl) hM ⟨by decide, Nat.le_of_ble_eq_true rfl, by decide, by decide⟩ [] ⟨0, 8, 11, 13⟩ [⟨0, 8, 14, 15⟩, ⟨0, 8, 17, 62⟩] rfl (fun z hz => by cases hz) rfl (by decide) wd_183 wd_195 ?_
  intro y2 n2
  refine sh_astore_n dc_Law_waited_11 rfl (by decide) ?_
  refine sh_iconst (v := 1) dc_Law_waited_12 (by decide) ?_
  exact sh_VEQ (sh_ireturn dc_Law_waited_13 rfl rfl (by decide) (by decide)) rfl
theorem lt_waited_2 {h h1 : sh_Hp} {n a : Nat} {fs : List Value} {p0 : Int32} {oa : Nat} (f0 : h a = some (false, 0, fs)) (hM : sh_M md_Hall_waited [.ref a, .int p0] (n, h) (.inr (2, h1))) : sh_QM md_Law_waited [.ref a, .int p0, .ref oa] (n, h) (some (.int 2)) (fun h' => h' = h1) := by
  refine sh_aload_n dc_Law_waited_0 rfl rfl ?_
  refine sh_iconst (v := 0) dc_Law_waited_1 (by decide) ?_
  refine sh_aload_n dc_Law_waited_2 rfl rfl ?_
  refine sh_iload_n dc_Law_waited_3 rfl rfl ?_
  refine sh_callC (sh_virt (As := [.int p0]) dc_Law_waited_4 lm_Hall_waited ln_Law_58 wd_837 wd_838 rfl rfl (Nat.le_of_ble_eq_true rfl) f0 rfl) hM ⟨by decide, Nat.le_of_ble_eq_true rfl, by decide, by decide⟩ [⟨0, 8, 11, 13⟩] ⟨0, 8, 14, 15⟩ [⟨0, 8, 17, 62⟩] rfl (fun z hz => by
    simp only [List.mem_cons, List.not_mem_nil, or_false] at hz
    rcases hz with rfl
    · exact .inr ⟨by decide, _, wd_183, wn_4⟩) rfl (by decide) wd_184 wd_276 ?_
  intro y2 n2
  refine sh_astore_n dc_Law_waited_14 rfl (by decide) ?_
  refine sh_iconst (v := 2) dc_Law_waited_15 (by decide) ?_
  exact sh_VEQ (sh_ireturn dc_Law_waited_16 rfl rfl (by decide) (by decide)) rfl
theorem lt_waited_5 {h h1 : sh_Hp} {n a : Nat} {fs : List Value} {p0 : Int32} {oa : Nat} (f0 : h a = some (false, 0, fs)) (hM : sh_M md_Hall_waited [.ref a, .int p0] (n, h) (.inr (5, h1))) : sh_QM md_Law_waited [.ref a, .int p0, .ref oa] (n, h) (some (.int 3)) (fun h' => h' = h1) := by
  refine sh_aload_n dc_Law_waited_0 rfl rfl ?_
  refine sh_iconst (v := 0) dc_Law_waited_1 (by decide) ?_
  refine sh_aload_n dc_Law_waited_2 rfl rfl ?_
  refine sh_iload_n dc_Law_waited_3 rfl rfl ?_
  refine sh_callC (sh_virt (As := [.int p0]) dc_Law_waited_4 lm_Hall_waited ln_Law_58 wd_837 wd_838 rfl rfl (Nat.le_of_ble_eq_true rfl) f0 rfl) hM ⟨by decide, Nat.le_of_ble_eq_true rfl, by decide, by decide⟩ [⟨0, 8, 11, 13⟩, ⟨0, 8, 14, 15⟩] ⟨0, 8, 17, 62⟩ [] rfl (fun z hz => by
    simp only [List.mem_cons, List.not_mem_nil, or_false] at hz
    rcases hz with rfl | rfl
    · exact .inr ⟨by decide, _, wd_183, wn_13⟩
    · exact .inr ⟨by decide, _, wd_184, wn_27⟩) rfl (by decide) wd_835 wd_842 ?_
  intro y2 n2
  refine sh_astore_n dc_Law_waited_17 rfl (by decide) ?_
  refine sh_iconst (v := 3) dc_Law_waited_18 (by decide) ?_
  exact sh_VEQ (sh_ireturn dc_Law_waited_19 rfl rfl (by decide) (by decide)) rfl
