/-! doubles: numbers of bounded magnitude -/
def fp_z (x : UInt64) : Int := Jvm.FP.Core.zval Jvm.FP.Core.b64 (Jvm.FP.Core.val64 x)
def fp_1 : Nat := Jvm.FP.Core.one64
def rl_fb (B : Nat) (x : UInt64) : Prop := Jvm.FP.Core.DFin x ∧ -((B * fp_1 : Nat) : Int) ≤ fp_z x ∧ fp_z x ≤ ((B * fp_1 : Nat) : Int)
theorem fp_vf {x : UInt64} (h : Jvm.FP.Core.dIsNaN x = false) : vf_n64 x := by
  unfold vf_n64
  have h1 : ¬ 9218868437227405312 < x.toNat % 2 ^ 63 := fun hc => by
    have := (Jvm.FP.Core.isNaN_bits x).mpr hc
    rw [h] at this; cases this
  rw [UInt64.le_iff_toNat_le, Jvm.FP.Core.mask_toNat]
  exact Nat.le_of_not_lt h1
theorem rl_fb.vf {B : Nat} {x : UInt64} (h : rl_fb B x) : vf_n64 x := fp_vf h.1.notNaN
theorem rl_fb.mono {A B : Nat} {x : UInt64} (h : rl_fb A x) (hab : A ≤ B) : rl_fb B x := by
  have := Nat.mul_le_mul_right fp_1 hab
  exact ⟨h.1, by have := h.2.1; omega, by have := h.2.2; omega⟩
theorem fp_whole (n : Int) (h : -9007199254740992 < n ∧ n < 9007199254740992) : ∃ a : UInt64, fp_z a = n * (fp_1 : Int) ∧ Jvm.FP.Core.val64 a ≠ .nan := by
  have hn : (Int64.ofInt n).toInt = n := by
    rw [Int64.toInt_ofInt]
    exact Int.bmod_eq_of_le (by show -(((2 ^ 64 : Nat) : Int) / 2) ≤ n; omega) (by show n < (((2 ^ 64 : Nat) : Int) + 1) / 2; omega)
  have hw := Jvm.FP.Core.l2d_whole (a := Int64.ofInt n) (by unfold Jvm.FP.Core.Small53; rw [hn]; exact h)
  rw [hn] at hw
  exact ⟨Jvm.FP.Core.l2d (Int64.ofInt n), Jvm.FP.Core.DInt_zval hw, Jvm.FP.Core.DInt_ne_nan hw⟩
theorem fp_big : 9007199254740992 * fp_1 < Jvm.FP.Core.b64.tails * 2 ^ (Jvm.FP.Core.b64.exps - 2) := by decide +kernel
theorem fp_fin {x : UInt64} {B : Nat} (hn : Jvm.FP.Core.val64 x ≠ .nan) (hB : B ≤ 9007199254740992) (h1 : -((B * fp_1 : Nat) : Int) ≤ fp_z x) (h2 : fp_z x ≤ ((B * fp_1 : Nat) : Int)) : Jvm.FP.Core.DFin x := by
  have hb : B * fp_1 ≤ 9007199254740992 * fp_1 := Nat.mul_le_mul_right fp_1 hB
  have big := fp_big
  cases hv : Jvm.FP.Core.val64 x with
  | nan => exact absurd hv hn
  | inf s =>
    unfold fp_z at h1 h2
    rw [hv] at h1 h2
    cases s with
    | true =>
      have e : Jvm.FP.Core.zval Jvm.FP.Core.b64 (.inf true) = -((Jvm.FP.Core.b64.tails * 2 ^ (Jvm.FP.Core.b64.exps - 2) : Nat) : Int) := rfl
      rw [e] at h1
      omega
    | false =>
      have e : Jvm.FP.Core.zval Jvm.FP.Core.b64 (.inf false) = ((Jvm.FP.Core.b64.tails * 2 ^ (Jvm.FP.Core.b64.exps - 2) : Nat) : Int) := rfl
      rw [e] at h2
      omega
  | fin s c q => exact ⟨s, c, q, hv⟩
theorem fp_sum {d x y : Jvm.FP.Core.Datum} {r : UInt64} {A B : Nat} (hr : Jvm.FP.Core.val64 r = Jvm.FP.Core.round Jvm.FP.Core.b64 (Jvm.FP.Core.exactSum x y)) (hx : ∃ s c q, x = .fin s c q) (hy : ∃ s c q, y = .fin s c q) (fx : Jvm.FP.Core.fits Jvm.FP.Core.b64 x) (fy : Jvm.FP.Core.fits Jvm.FP.Core.b64 y)
    (hxl : -((A * fp_1 : Nat) : Int) ≤ Jvm.FP.Core.zval Jvm.FP.Core.b64 x) (hxu : Jvm.FP.Core.zval Jvm.FP.Core.b64 x ≤ ((A * fp_1 : Nat) : Int)) (hyl : -((B * fp_1 : Nat) : Int) ≤ Jvm.FP.Core.zval Jvm.FP.Core.b64 y) (hyu : Jvm.FP.Core.zval Jvm.FP.Core.b64 y ≤ ((B * fp_1 : Nat) : Int)) (hAB : A + B < 9007199254740992) : rl_fb (A + B) r := by
  obtain ⟨v, hv, hvn⟩ := fp_whole ((A + B : Nat) : Int) (by omega)
  obtain ⟨w, hw, hwn⟩ := fp_whole (-((A + B : Nat) : Int)) (by omega)
  have e1 : ((A + B : Nat) : Int) * (fp_1 : Int) = (((A + B) * fp_1 : Nat) : Int) := by rw [Int.natCast_mul]
  have e2 : (-((A + B : Nat) : Int)) * (fp_1 : Int) = -(((A + B) * fp_1 : Nat) : Int) := by rw [Int.neg_mul, e1]
  have e3 : (A + B) * fp_1 = A * fp_1 + B * fp_1 := Nat.add_mul _ _ _
  rw [e1, e3] at hv
  rw [e2, e3] at hw
  have hn : Jvm.FP.Core.val64 r ≠ .nan := by
    rw [hr]
    intro hc
    rw [Jvm.FP.Core.round_nan] at hc
    obtain ⟨s, c, q, rfl⟩ := hx
    obtain ⟨t, d, q', rfl⟩ := hy
    cases hc
  have up : fp_z r ≤ (((A + B) * fp_1 : Nat) : Int) := by
    unfold fp_z
    rw [hr, e3, ← hv]
    exact Jvm.FP.Core.sum_le Jvm.FP.Core.good_b64 hx hy fx fy (Jvm.FP.Core.val64_fits v) hvn (by unfold fp_z at hv; rw [hv]; omega)
  have lo : -(((A + B) * fp_1 : Nat) : Int) ≤ fp_z r := by
    unfold fp_z
    rw [hr, e3, ← hw]
    exact Jvm.FP.Core.sum_ge Jvm.FP.Core.good_b64 hx hy fx fy (Jvm.FP.Core.val64_fits w) hwn (by unfold fp_z at hw; rw [hw]; omega)
  exact ⟨fp_fin hn (by omega) lo up, lo, up⟩
theorem rl_fb.add {A B : Nat} {x y : UInt64} (hx : rl_fb A x) (hy : rl_fb B y) (h : A + B < 9007199254740992) : rl_fb (A + B) (FP.dadd x y) :=
  fp_sum (d := .nan) (Jvm.FP.Core.val64_dadd x y) hx.1 hy.1 (Jvm.FP.Core.val64_fits x) (Jvm.FP.Core.val64_fits y) hx.2.1 hx.2.2 hy.2.1 hy.2.2 h
theorem rl_fb.sub {A B : Nat} {x y : UInt64} (hx : rl_fb A x) (hy : rl_fb B y) (h : A + B < 9007199254740992) : rl_fb (A + B) (FP.dsub x y) := by
  have e : Jvm.FP.Core.zval Jvm.FP.Core.b64 (Jvm.FP.Core.negate (Jvm.FP.Core.val64 y)) = -fp_z y := Jvm.FP.Core.zval_negate _ _
  obtain ⟨s, c, q, hv⟩ := hy.1
  have f := Jvm.FP.Core.val64_fits y
  have h1 := hy.2.1
  have h2 := hy.2.2
  rw [hv] at f
  refine fp_sum (d := .nan) (Jvm.FP.Core.val64_dsub x y) hx.1 ⟨!s, c, q, by rw [hv]; rfl⟩ (Jvm.FP.Core.val64_fits x) (by rw [hv]; exact f) hx.2.1 hx.2.2 (by rw [e]; omega) (by rw [e]; omega) h
theorem fp_cmp {x y : UInt64} (hx : Jvm.FP.Core.DFin x) (hy : Jvm.FP.Core.DFin y) : FP.dcmp x y = some (compare (fp_z x) (fp_z y)) := Jvm.FP.Core.dcmp_zval hx.ne_nan hy.ne_nan
def rl_neg (x : UInt64) : Prop := Op.cmpValue (FP.dcmp x FP.dconst0) .l < 0
theorem fp_d0 : Jvm.FP.Core.DFin FP.dconst0 := ⟨_, _, _, Jvm.FP.Core.val64_zero⟩
theorem fp_z0 : fp_z FP.dconst0 = 0 := Jvm.FP.Core.zval64_zero
theorem fp_neg {x : UInt64} (hx : Jvm.FP.Core.DFin x) : rl_neg x ↔ fp_z x < 0 := by
  unfold rl_neg
  rw [fp_cmp hx fp_d0, fp_z0]
  rcases Int.lt_trichotomy (fp_z x) 0 with h | h | h
  · rw [(Jvm.FP.Core.compare_lt_iff _ _).mpr h]
    exact ⟨fun _ => h, fun _ => by decide⟩
  · rw [(Jvm.FP.Core.compare_eq_iff _ _).mpr h]
    exact ⟨fun q => absurd q (by decide), fun q => by omega⟩
  · rw [(Jvm.FP.Core.compare_gt_iff _ _).mpr h]
    exact ⟨fun q => absurd q (by decide), fun q => by omega⟩
theorem fp_m1 : rl_neg 13830554455654793216 := by unfold rl_neg; decide +kernel
/-- what the tests of a limit say -/
theorem fp_ge {x y : UInt64} (h : ¬ Op.cmpValue (FP.dcmp x y) .l < 0) : Jvm.FP.Core.val64 x ≠ .nan ∧ Jvm.FP.Core.val64 y ≠ .nan ∧ fp_z y ≤ fp_z x := by
  cases hc : FP.dcmp x y with
  | none => rw [hc] at h; exact absurd (by decide) h
  | some o =>
    have hn := Jvm.FP.Core.dcmp_some hc
    refine ⟨hn.1, hn.2, ?_⟩
    have e : FP.dcmp x y = some (compare (fp_z x) (fp_z y)) := Jvm.FP.Core.dcmp_zval hn.1 hn.2
    refine Int.not_lt.mp fun hl => ?_
    rw [e, (Jvm.FP.Core.compare_lt_iff _ _).mpr hl] at h
    exact h (by decide)
theorem fp_le {x y : UInt64} (h : Op.cmpValue (FP.dcmp x y) .g ≤ 0) : fp_z x ≤ fp_z y := by
  cases hc : FP.dcmp x y with
  | none => rw [hc] at h; exact absurd h (by decide)
  | some o =>
    have hn := Jvm.FP.Core.dcmp_some hc
    have e : FP.dcmp x y = some (compare (fp_z x) (fp_z y)) := Jvm.FP.Core.dcmp_zval hn.1 hn.2
    refine Int.not_lt.mp fun hl => ?_
    rw [e, (Jvm.FP.Core.compare_gt_iff _ _).mpr hl] at h
    exact absurd h (by decide)
theorem fp_i0 : FP.i2d 0 = FP.dconst0 := by decide +kernel
theorem fp_im1 : FP.i2d (-1) = 13830554455654793216 := by decide +kernel
theorem fp_i1000 : FP.i2d 1000 = 4652007308841189376 := by decide +kernel
theorem fp_im1000 : FP.i2d (-1000) = 13875379345695965184 := by decide +kernel
theorem fp_zm1 : fp_z 13830554455654793216 = -(fp_1 : Int) := by decide +kernel
theorem fp_z1000 : fp_z 4652007308841189376 = ((1000 * fp_1 : Nat) : Int) := by decide +kernel
theorem fp_lim {y : UInt64} (h1 : ¬ Op.cmpValue (FP.dcmp y 13830554455654793216) .l < 0) (h2 : Op.cmpValue (FP.dcmp y 4652007308841189376) .g ≤ 0) : rl_fb 1000 y := by
  obtain ⟨a, -, b⟩ := fp_ge h1
  have c := fp_le h2
  rw [fp_zm1] at b
  rw [fp_z1000] at c
  have lo : -((1000 * fp_1 : Nat) : Int) ≤ fp_z y := by omega
  exact ⟨fp_fin a (by decide) lo c, lo, c⟩
theorem fp_by {y : UInt64} (h1 : ¬ Op.cmpValue (FP.dcmp y FP.dconst0) .l < 0) (h2 : Op.cmpValue (FP.dcmp y 4652007308841189376) .g ≤ 0) : rl_fb 1000 y ∧ 0 ≤ fp_z y := by
  obtain ⟨a, -, b⟩ := fp_ge h1
  have c := fp_le h2
  rw [fp_z0] at b
  rw [fp_z1000] at c
  have lo : -((1000 * fp_1 : Nat) : Int) ≤ fp_z y := by omega
  exact ⟨⟨fp_fin a (by decide) lo c, lo, c⟩, b⟩
theorem fp_add0 {A B : Nat} {x y : UInt64} (hx : rl_fb A x) (hy : rl_fb B y) (h0 : 0 ≤ fp_z x) (h1 : 0 ≤ fp_z y) : 0 ≤ fp_z (FP.dadd x y) := by
  have := Jvm.FP.Core.sum_ge Jvm.FP.Core.good_b64 hx.1 hy.1 (Jvm.FP.Core.val64_fits x) (Jvm.FP.Core.val64_fits y) (Jvm.FP.Core.val64_fits FP.dconst0) fp_d0.ne_nan (by
    have := fp_z0
    unfold fp_z at this h0 h1
    rw [this]; omega)
  unfold fp_z
  rw [show Jvm.FP.Core.val64 (FP.dadd x y) = _ from Jvm.FP.Core.val64_dadd x y]
  have z := fp_z0
  unfold fp_z at z
  rw [z] at this
  exact this
theorem fp_fb0 : rl_fb 0 FP.dconst0 := ⟨fp_d0, by rw [fp_z0]; simp, by rw [fp_z0]; simp⟩
theorem fp_div {B : Nat} {x : UInt64} {n : Int32} (hx : rl_fb B x) (hn : ¬ n = 0) : vf_n64 (FP.ddiv x (FP.i2d n)) :=
  fp_vf (Jvm.FP.Core.ddiv_out hx.1.notNaN (Jvm.FP.Core.i2d_fin n) (fun hz => Jvm.FP.Core.i2d_ne_zero hn ((Jvm.FP.Core.zero_bits2 _).mp hz)))
theorem fp_eighth (x : Int32) : vf_n64 (FP.dmul (FP.i2d x) 4593671619917905920) := fp_vf (Jvm.FP.Core.dmul_out (Jvm.FP.Core.i2d_fin x) ((Jvm.FP.Core.fin_bits _).mpr (by decide)))
