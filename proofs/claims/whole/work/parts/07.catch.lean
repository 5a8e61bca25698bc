/-! a call that throws, caught by a row of the method's own table -/
section SHK
variable {d dy : sh_Md} {pc : Nat} {lv : List (Nat × Value)} {stk st : List Value} {w : sh_Wd} {cs ss : Nat} {Z : sh_Zt} {As : List Value}
theorem sh_callC {k : Nat} {h' : sh_Hp} (hc : sh_Call d dy pc stk st w As) (hM : sh_M dy As w (.inr (k, h'))) (hr : sh_Rm d dy st cs ss) (pre : List ExceptionTableEntry) (x : ExceptionTableEntry) (suf : List ExceptionTableEntry) (hsplit : tableOf d.2.2.2.2.2 = pre ++ x :: suf)
    (hpass : ∀ z ∈ pre, covers z pc = false ∨ (z.catchType ≠ 0 ∧ ∃ nm : String, Cond.classLink d.1.cls z.catchType nm ∈ sh_ws ∧ Cond.not (.castable (sh_xn k) nm) ∈ sh_ws)) (hx : covers x pc = true) (h0 : x.catchType ≠ 0) (hlink : Cond.classLink d.1.cls x.catchType (sh_xn k) ∈ sh_ws) (hcast : Cond.castable (sh_xn k) (sh_xn k) ∈ sh_ws)
    (kk : ∀ y n : Nat, sh_V d (x.handlerPc, lv, [.ref y]) (n, h') (cs + dy.2.2.2.2.1.cells) (ss + dy.2.2.2.2.1.slots) Z) : sh_V d (pc, lv, stk) w cs ss Z := by
  intro p l e s m args below meth c D b0 H0 hF H locs ls hR hL hl
  obtain ⟨hpl, ⟨⟨ig, hd⟩, hAs⟩, hgo⟩ := hc
  obtain ⟨mk, methk, ck, hC, go⟩ := hgo p l e s m args below meth c D b0 H0 H ls hF hR
  intro T hT X
  obtain ⟨vm₁, X₁, hstep⟩ := go T locs cs ss hT X
  have hmr : (F0 m pc ls st).monitorRoom = 0 := rfl
  obtain ⟨t, hsteps, T', L, y, n, cell, X', hL', hR', hy, hv, hcl, ht⟩ := sh_into (D := D) (b0 := b0) (H0 := H0) hM X₁ hF.1 hF.kw hF.kd hF.th (by show sh_Rep D b0 H0 w T.heap; rw [hT]; exact hR) (g := F0 m pc ls st) rfl (by rw [hF.ml]; exact hl.1) (ig := ig) (by rw [hF.2.1]; exact hd) hC hpl hAs hr.1 (by show 2 * (F0 m pc ls st).monitorRoom + (st.map fun v => v.category).sum + (dy.2.2.1 + 11) + dy.2.2.2.2.1.locals ≤ d.2.2.2.2.1.locals; rw [hmr]; have := hr.2.1; omega) hr.2.2.1 hr.2.2.2
  have hmag : e.platform.magicAccessors = ({} : Platform).magicAccessors := by rw [X.admits.platform]
  obtain ⟨c3, c4, hc3, hc4, hasg⟩ := Cond.castable_spec (hF.kw _ hcast args)
  cases Option.some.inj (hc3.symm.trans hcl)
  obtain ⟨c5, hc5, hcl5⟩ := Cond.classLink_spec hF.own (hF.kw _ hlink args) e.platform hmag
  cases Option.some.inj (hc4.symm.trans hc5)
  obtain ⟨vm', X2, st2⟩ := X'.thenCaughtThrough y (g := F0 m pc ls st) rfl (Steps.refl _) hy hv (by obtain ⟨k9, h9, -⟩ := Vm.findClass_spec hcl; exact ⟨k9, h9⟩) pre x suf (by rw [hF.xt]; exact hsplit)
    (fun z hz => by
      rcases hpass z hz with h | ⟨hz0, nm, hl1, hn1⟩
      · exact Or.inl h
      · obtain ⟨c6, hc6, hcl6⟩ := Cond.classLink_spec hF.own (hF.kw _ hl1 args) e.platform hmag
        obtain ⟨a8, b8, h1, h2, h3⟩ := va_Nc.of (hF.kw _ hn1 args)
        cases Option.some.inj (h1.symm.trans hcl)
        cases Option.some.inj (h2.symm.trans hc6)
        exact Or.inr ⟨hz0, _, hcl6, h3⟩) hx (Or.inr ⟨h0, c4, hcl5, hasg⟩)
  obtain ⟨t2, a1, b1⟩ := kk y n p l e s m args below meth c D b0 H0 hF T'.heap (locs ++ L) ls hR' (by
    intro q hq
    rcases List.mem_append.mp hq with h | h
    · exact hL q h
    · exact hL' q h) hl (T'.setVm vm') rfl X2
  exact ⟨t2, (hstep _ hsteps).trans (by rw [ht]; exact st2.trans a1), b1⟩
end SHK
