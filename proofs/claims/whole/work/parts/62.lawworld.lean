/-! the law's world -/
def lw_dis (A : Nat → Nat) (mq : Nat) (B : Nat → Nat) (oa od : Nat) : Prop := (∀ j, j < 60 → A j ≠ mq ∧ (∀ x ∈ sh_ml, A j ≠ B x.1) ∧ A j ≠ oa ∧ A j ≠ od) ∧ (mq ≠ oa ∧ mq ≠ od) ∧ (∀ x ∈ sh_ml, B x.1 ≠ oa ∧ B x.1 ≠ od) ∧ oa ≠ od
def lw_W (A : Nat → Nat) (mq : Nat) (B : Nat → Nat) (oa od : Nat) (K : sh_II) (L : sh_DD) (I : sh_II) (D : sh_DD) (yo : Int64) (yd : UInt64) (h : sh_Hp) : Prop := sh_CW A K L h ∧ sh_MW mq B I D h ∧ h oa = some (true, 1, [.long yo]) ∧ h od = some (true, 2, [.double yd]) ∧ lw_dis A mq B oa od
section LWA
variable {A : Nat → Nat} {mq : Nat} {B : Nat → Nat} {oa od : Nat} {K K' : sh_II} {L L' : sh_DD} {I I' : sh_II} {D D' : sh_DD} {yo : Int64} {yd : UInt64} {h h' : sh_Hp}
theorem sh_MW.at (hm : sh_MW mq B I D h) (h1 : h' mq = h mq) (h2 : ∀ x ∈ sh_ml, h' (B x.1) = h (B x.1)) : sh_MW mq B I D h' := ⟨h1.trans hm.1, fun x hx => (h2 x hx).trans (hm.2.1 x hx), hm.2.2⟩
theorem lw_cls (w : lw_W A mq B oa od K L I D yo yd h) (hc : sh_CW A K' L' h') (hg : sh_Gr A h h') : lw_W A mq B oa od K' L' I D yo yd h' := by
  obtain ⟨w1, w2, w4, w5, w6⟩ := w
  have d := w6.1
  exact ⟨hc, w2.at (hg _ (fun j hj e => (d j hj).1 e.symm)) (fun x hx => hg _ (fun j hj e => (d j hj).2.1 x hx e.symm)), (hg _ (fun j hj e => (d j hj).2.2.1 e.symm)).trans w4, (hg _ (fun j hj e => (d j hj).2.2.2 e.symm)).trans w5, w6⟩
theorem lw_mod (w : lw_W A mq B oa od K L I D yo yd h) (hm : sh_MW mq B I' D' h') (hf : sh_Fr mq B h h') : lw_W A mq B oa od K L I' D' yo yd h' := by
  obtain ⟨w1, w2, w4, w5, w6⟩ := w
  have d := w6
  refine ⟨⟨fun j o ho => ?_, w1.2⟩, hm, (hf _ (fun e => d.2.1.1 e.symm) (fun x hx e => (d.2.2.1 x hx).1 e.symm)).trans w4, (hf _ (fun e => d.2.1.2 e.symm) (fun x hx e => (d.2.2.1 x hx).2 e.symm)).trans w5, w6⟩
  have dj := d.1 j (cw_lt ho)
  exact (hf _ dj.1 dj.2.1).trans (w1.1 j o ho)
theorem lw_out {v : Int64} (w : lw_W A mq B oa od K L I D yo yd h) : lw_W A mq B oa od K L I D v yd (sh_up h oa (true, 1, [.long v])) := by
  obtain ⟨w1, w2, w4, w5, w6⟩ := w
  have d := w6
  refine ⟨⟨fun j o ho => ?_, w1.2⟩, w2.at (sh_up_ne d.2.1.1) (fun x hx => sh_up_ne (d.2.2.1 x hx).1), sh_up_eq _ _ _, (sh_up_ne (fun e => d.2.2.2 e.symm)).trans w5, w6⟩
  exact (sh_up_ne (d.1 j (cw_lt ho)).2.2.1).trans (w1.1 j o ho)
theorem lw_outD {v : UInt64} (w : lw_W A mq B oa od K L I D yo yd h) : lw_W A mq B oa od K L I D yo v (sh_up h od (true, 2, [.double v])) := by
  obtain ⟨w1, w2, w4, w5, w6⟩ := w
  have d := w6
  refine ⟨⟨fun j o ho => ?_, w1.2⟩, w2.at (sh_up_ne d.2.1.2) (fun x hx => sh_up_ne (d.2.2.1 x hx).2), (sh_up_ne d.2.2.2).trans w4, sh_up_eq _ _ _, w6⟩
  exact (sh_up_ne (d.1 j (cw_lt ho)).2.2.2).trans (w1.1 j o ho)
theorem lw_make {A' : Nat → Nat} {n : Nat} (w : lw_W A mq B oa od K L I D yo yd h) (dom : ∀ (q : Nat) (o : sh_Ob), h q = some o → q < n) (hc : sh_CW A' K' L' h') (hF : ∀ q, q < n → q ≠ A 0 → q ≠ A 2 → h' q = h q) (hA : ∀ j, A' j = A j ∨ n ≤ A' j) : lw_W A' mq B oa od K' L' I D yo yd h' := by
  obtain ⟨w1, w2, w4, w5, w6⟩ := w
  have d := w6
  have d0 := d.1 0 (by omega)
  have d2 := d.1 2 (by omega)
  have keep : ∀ q o, h q = some o → q ≠ A 0 → q ≠ A 2 → h' q = h q := fun q o ho h0 h2 => hF q (dom q o ho) h0 h2
  have lmq := dom _ _ w2.1
  have lB : ∀ x ∈ sh_ml, B x.1 < n := fun x hx => dom _ _ (w2.2.1 x hx)
  have loa := dom _ _ w4
  have lod := dom _ _ w5
  refine ⟨hc, w2.at (keep _ _ w2.1 (fun e => d0.1 e.symm) (fun e => d2.1 e.symm)) (fun x hx => keep _ _ (w2.2.1 x hx) (fun e => d0.2.1 x hx e.symm) (fun e => d2.2.1 x hx e.symm)), (keep _ _ w4 (fun e => d0.2.2.1 e.symm) (fun e => d2.2.2.1 e.symm)).trans w4, (keep _ _ w5 (fun e => d0.2.2.2 e.symm) (fun e => d2.2.2.2 e.symm)).trans w5, ⟨fun j hj => ?_, w6.2⟩⟩
  rcases hA j with e | e
  · rw [e]; exact d.1 j hj
  · exact ⟨by omega, fun x hx q => by have := lB x hx; omega, by omega, by omega⟩
end LWA
/-! the script lies below the objects, and is only read -/
def lw_G (sc N : Nat) (xs : Nat → Int32) (Z0 : sh_Zt) : sh_Zt := fun D b0 H0 below s args t => (sc < b0 ∧ va_X sc N xs s H0) → Z0 D b0 H0 below s args t
section LWR
variable {d : sh_Md} {pc : Nat} {lv : List (Nat × Value)} {st : List Value} {w : sh_Wd} {cs ss sc N : Nat} {xs : Nat → Int32} {Z0 : sh_Zt} {i : Int32}
theorem sh_ialdS (hd : decode d.2.1 pc = .ok (.iaload, 1)) (hin : vp_in i N) (kk : sh_V d (pc + 1, lv, .int (xs i.toNatClampNeg) :: st) w cs ss (lw_G sc N xs Z0)) : sh_V d (pc, lv, .int i :: .ref sc :: st) w cs ss (lw_G sc N xs Z0) := by
  intro p l e s m args below meth c D b0 H0 hF H locs ls hR hL hl
  by_cases hS : sc < b0 ∧ va_X sc N xs s H0
  · obtain ⟨scr, h1, h2, h3, h4, h5⟩ := hS.2
    have hlt : i.toNatClampNeg < N := Nat.not_le.mp fun q => hin (Or.inr q)
    exact W.iald (v := .int (xs i.toNatClampNeg)) hF.1 hF.2.1 (by rw [hR.2.2.1 sc hS.1]; exact h1) h2 h3 (by rw [h4]; exact hin) (h5 _ hlt) rfl rfl hd (kk p l e s m args below meth c D b0 H0 hF H locs ls hR hL hl)
  · exact fun T hT X => ⟨_, Steps.refl _, fun h => absurd h hS⟩
theorem sh_alenS (hd : decode d.2.1 pc = .ok (.arraylength, 1)) (kk : sh_V d (pc + 1, lv, .int (Int32.ofNat N) :: st) w cs ss (lw_G sc N xs Z0)) : sh_V d (pc, lv, .ref sc :: st) w cs ss (lw_G sc N xs Z0) := by
  intro p l e s m args below meth c D b0 H0 hF H locs ls hR hL hl
  by_cases hS : sc < b0 ∧ va_X sc N xs s H0
  · obtain ⟨scr, h1, h2, h3, h4, h5⟩ := hS.2
    exact W.alen (n := Int32.ofNat N) hF.1 hF.2.1 (by rw [hR.2.2.1 sc hS.1]; exact h1) h2 (by rw [h4] <;> rfl) rfl rfl hd (kk p l e s m args below meth c D b0 H0 hF H locs ls hR hL hl)
  · exact fun T hT X => ⟨_, Steps.refl _, fun h => absurd h hS⟩
theorem lw_GV {f : sh_AF} (k : sh_V d f w cs ss Z0) : sh_V d f w cs ss (lw_G sc N xs Z0) :=
  fun p l e s m args below meth c D b0 H0 hF H locs ls hR hL hl => sh_mono (fun t ht _ => ht) (k p l e s m args below meth c D b0 H0 hF H locs ls hR hL hl)
end LWR
