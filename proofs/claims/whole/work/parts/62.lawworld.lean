/-! the law's world -/
def lw_dis (A : Nat → Nat) (mq : Nat) (B : Nat → Nat) (sc oa od : Nat) : Prop := (∀ j, j < 60 → A j ≠ mq ∧ (∀ x ∈ sh_ml, A j ≠ B x.1) ∧ A j ≠ sc ∧ A j ≠ oa ∧ A j ≠ od) ∧ (mq ≠ sc ∧ mq ≠ oa ∧ mq ≠ od) ∧ (∀ x ∈ sh_ml, B x.1 ≠ sc ∧ B x.1 ≠ oa ∧ B x.1 ≠ od) ∧ sc ≠ oa ∧ sc ≠ od ∧ oa ≠ od
def lw_W (A : Nat → Nat) (mq : Nat) (B : Nat → Nat) (sc oa od : Nat) (K : sh_II) (L : sh_DD) (I : sh_II) (D : sh_DD) (sv : List Value) (yo : Int64) (yd : UInt64) (h : sh_Hp) : Prop := sh_CW A K L h ∧ sh_MW mq B I D h ∧ h sc = some (true, 0, sv) ∧ h oa = some (true, 1, [.long yo]) ∧ h od = some (true, 2, [.double yd]) ∧ lw_dis A mq B sc oa od
section LWA
variable {A : Nat → Nat} {mq : Nat} {B : Nat → Nat} {sc oa od : Nat} {K K' : sh_II} {L L' : sh_DD} {I I' : sh_II} {D D' : sh_DD} {sv : List Value} {yo : Int64} {yd : UInt64} {h h' : sh_Hp}
theorem sh_MW.at (hm : sh_MW mq B I D h) (h1 : h' mq = h mq) (h2 : ∀ x ∈ sh_ml, h' (B x.1) = h (B x.1)) : sh_MW mq B I D h' := ⟨h1.trans hm.1, fun x hx => (h2 x hx).trans (hm.2.1 x hx), hm.2.2⟩
theorem lw_cls (w : lw_W A mq B sc oa od K L I D sv yo yd h) (hc : sh_CW A K' L' h') (hg : sh_Gr A h h') : lw_W A mq B sc oa od K' L' I D sv yo yd h' := by
  obtain ⟨w1, w2, w3, w4, w5, w6⟩ := w
  have d := w6.1
  exact ⟨hc, w2.at (hg _ (fun j hj e => (d j hj).1 e.symm)) (fun x hx => hg _ (fun j hj e => (d j hj).2.1 x hx e.symm)), (hg _ (fun j hj e => (d j hj).2.2.1 e.symm)).trans w3, (hg _ (fun j hj e => (d j hj).2.2.2.1 e.symm)).trans w4, (hg _ (fun j hj e => (d j hj).2.2.2.2 e.symm)).trans w5, w6⟩
theorem lw_mod (w : lw_W A mq B sc oa od K L I D sv yo yd h) (hm : sh_MW mq B I' D' h') (hf : sh_Fr mq B h h') : lw_W A mq B sc oa od K L I' D' sv yo yd h' := by
  obtain ⟨w1, w2, w3, w4, w5, w6⟩ := w
  have d := w6
  refine ⟨⟨fun j o ho => ?_, w1.2⟩, hm, (hf _ (fun e => d.2.1.1 e.symm) (fun x hx e => (d.2.2.1 x hx).1 e.symm)).trans w3, (hf _ (fun e => d.2.1.2.1 e.symm) (fun x hx e => (d.2.2.1 x hx).2.1 e.symm)).trans w4, (hf _ (fun e => d.2.1.2.2 e.symm) (fun x hx e => (d.2.2.1 x hx).2.2 e.symm)).trans w5, w6⟩
  have dj := d.1 j (cw_lt ho)
  exact (hf _ dj.1 dj.2.1).trans (w1.1 j o ho)
theorem lw_out {v : Int64} (w : lw_W A mq B sc oa od K L I D sv yo yd h) : lw_W A mq B sc oa od K L I D sv v yd (sh_up h oa (true, 1, [.long v])) := by
  obtain ⟨w1, w2, w3, w4, w5, w6⟩ := w
  have d := w6
  refine ⟨⟨fun j o ho => ?_, w1.2⟩, w2.at (sh_up_ne d.2.1.2.1) (fun x hx => sh_up_ne (d.2.2.1 x hx).2.1), (sh_up_ne d.2.2.2.1).trans w3, sh_up_eq _ _ _, (sh_up_ne (fun e => d.2.2.2.2.2 e.symm)).trans w5, w6⟩
  exact (sh_up_ne (d.1 j (cw_lt ho)).2.2.2.1).trans (w1.1 j o ho)
theorem lw_outD {v : UInt64} (w : lw_W A mq B sc oa od K L I D sv yo yd h) : lw_W A mq B sc oa od K L I D sv yo v (sh_up h od (true, 2, [.double v])) := by
  obtain ⟨w1, w2, w3, w4, w5, w6⟩ := w
  have d := w6
  refine ⟨⟨fun j o ho => ?_, w1.2⟩, w2.at (sh_up_ne d.2.1.2.2) (fun x hx => sh_up_ne (d.2.2.1 x hx).2.2), (sh_up_ne d.2.2.2.2.1).trans w3, (sh_up_ne d.2.2.2.2.2).trans w4, sh_up_eq _ _ _, w6⟩
  exact (sh_up_ne (d.1 j (cw_lt ho)).2.2.2.2).trans (w1.1 j o ho)
theorem lw_make {A' : Nat → Nat} {n : Nat} (w : lw_W A mq B sc oa od K L I D sv yo yd h) (dom : ∀ (q : Nat) (o : sh_Ob), h q = some o → q < n) (hc : sh_CW A' K' L' h') (hF : ∀ q, q < n → q ≠ A 0 → q ≠ A 2 → h' q = h q) (hA : ∀ j, A' j = A j ∨ n ≤ A' j) : lw_W A' mq B sc oa od K' L' I D sv yo yd h' := by
  obtain ⟨w1, w2, w3, w4, w5, w6⟩ := w
  have d := w6
  have d0 := d.1 0 (by omega)
  have d2 := d.1 2 (by omega)
  have keep : ∀ q o, h q = some o → q ≠ A 0 → q ≠ A 2 → h' q = h q := fun q o ho h0 h2 => hF q (dom q o ho) h0 h2
  have lmq := dom _ _ w2.1
  have lB : ∀ x ∈ sh_ml, B x.1 < n := fun x hx => dom _ _ (w2.2.1 x hx)
  have lsc := dom _ _ w3
  have loa := dom _ _ w4
  have lod := dom _ _ w5
  refine ⟨hc, w2.at (keep _ _ w2.1 (fun e => d0.1 e.symm) (fun e => d2.1 e.symm)) (fun x hx => keep _ _ (w2.2.1 x hx) (fun e => d0.2.1 x hx e.symm) (fun e => d2.2.1 x hx e.symm)), (keep _ _ w3 (fun e => d0.2.2.1 e.symm) (fun e => d2.2.2.1 e.symm)).trans w3, (keep _ _ w4 (fun e => d0.2.2.2.1 e.symm) (fun e => d2.2.2.2.1 e.symm)).trans w4, (keep _ _ w5 (fun e => d0.2.2.2.2 e.symm) (fun e => d2.2.2.2.2 e.symm)).trans w5, ⟨fun j hj => ?_, w6.2⟩⟩
  rcases hA j with e | e
  · rw [e]; exact d.1 j hj
  · exact ⟨by omega, fun x hx q => by have := lB x hx; omega, by omega, by omega, by omega⟩
end LWA
