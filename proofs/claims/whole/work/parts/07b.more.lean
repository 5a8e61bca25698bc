/-! more rules -/
section SHZ
variable {d : sh_Md} {pc : Nat} {lv : List (Nat × Value)} {st : List Value} {w : sh_Wd} {cs ss : Nat} {Z : sh_Zt}
theorem sh_zast {q ti : Nat} {vs : List Value} {v : Value} {i x : Int32} (hd : decode d.2.1 pc = .ok (.bastore, 1)) (hq : w.2 q = some (true, ti, vs)) (ht : sh_ats[ti]? = some .boolean) (h0 : ¬ i < 0) (hv : vs[i.toNatClampNeg]? = some v) (hn : narrow .boolean (.int x) = .int x)
    (kk : sh_V d (pc + 1, lv, st) (w.1, sh_up w.2 q (true, ti, vs.set i.toNatClampNeg (.int x))) cs ss Z) : sh_V d (pc, lv, .int x :: .int i :: .ref q :: st) w cs ss Z := by
  intro p l e s m args below meth c D b0 H0 hF H locs ls hR hL hl
  have h3 := hR.2.2.2 q _ hq
  refine W.zast hF.1 hF.2.1 h3.2 ((hF.kd.2 ti _ ht).1 _ _) (fun h => by cases h) (sh_in h0 hv) rfl rfl hd fun H1 e1 z oq => ?_
  rw [hn] at e1
  exact kk p l e s m args below meth c D b0 H0 hF H1 _ ls (hR.set hq z oq (e1.trans (congrArg some (sh_stored hv)))) (sh_locs hL h3.1) hl
/-- a constant of the pool -/
theorem sh_ldc2d {index : Nat} {v : UInt64} (hd : decode d.2.1 pc = .ok (.ldc2_w index, 3)) (hw : Cond.constantDouble d.1.cls index v ∈ sh_ws) (k : sh_V d (pc + 3, lv, .double v :: st) w cs ss Z) : sh_V d (pc, lv, st) w cs ss Z :=
  fun p l e s m args below meth c D b0 H0 hF H locs ls hR hL hl => lv_ldc2d hF.1 hF.2.1 hF.own (hF.kw _ hw args) hd (k p l e s m args below meth c D b0 H0 hF H locs ls hR hL hl)
/-- the objects lie below the next address -/
theorem sh_dom (k : (∀ (q : Nat) (o : sh_Ob), w.2 q = some o → q < w.1) → sh_V d (pc, lv, st) w cs ss Z) : sh_V d (pc, lv, st) w cs ss Z := by
  intro p l e s m args below meth c D b0 H0 hF H locs ls hR hL hl
  refine k (fun q o hq => ?_) p l e s m args below meth c D b0 H0 hF H locs ls hR hL hl
  have := (hR.2.2.2 q o hq).2.lt
  rw [hR.1] at this
  exact this
theorem sh_Vh {f : sh_AF} {n : Nat} {h1 h2 : sh_Hp} (e : h1 = h2) (k : sh_V d f (n, h2) cs ss Z) : sh_V d f (n, h1) cs ss Z := by rw [e]; exact k
theorem sh_Vl {lv' : List (Nat × Value)} (e : lv = lv') (k : sh_V d (pc, lv', st) w cs ss Z) : sh_V d (pc, lv, st) w cs ss Z := by rw [e]; exact k
end SHZ
theorem sh_nq (C : String) (r : Option Nat) : narrow (.object C) (va_rf r) = va_rf r := by cases r <;> rfl
theorem sh_fq (C : String) (r : Option Nat) : fits (.object C) (va_rf r) = true := by cases r <;> rfl
theorem sh_cq (r : Option Nat) : (va_rf r).category = 1 := by cases r <;> rfl
