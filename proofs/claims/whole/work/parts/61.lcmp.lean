/-! comparing longs -/
theorem sh_lcmp {d : sh_Md} {pc : Nat} {lv : List (Nat × Value)} {st : List Value} {w : sh_Wd} {cs ss : Nat} {Z : sh_Zt} {x : Int64} (hd : decode d.2.1 pc = .ok (.lcmp, 1)) (k : sh_V d (pc + 1, lv, .int 0 :: st) w cs ss Z) : sh_V d (pc, lv, .long x :: .long x :: st) w cs ss Z := by
  intro p l e s m args below meth c D b0 H0 hF H locs ls hR hL hl
  intro T hT X
  obtain ⟨t, a, b⟩ := k p l e s m args below meth c D b0 H0 hF H locs ls hR hL hl T hT X
  refine ⟨t, ?_, b⟩
  have hb := hF.2.1
  have hexec := hF.1
  jvm_step X.here [X.here.top, hexec, hb, hd]
  exact a
