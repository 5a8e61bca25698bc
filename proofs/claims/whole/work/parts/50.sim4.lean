section SMF
variable {A : Nat → Nat} {mq : Nat} {B : Nat → Nat} {K K' : sh_II} {L L' : sh_DD} {I I' : sh_II} {D D' : sh_DD} {R R' : Nat → List Nat} {k c : Nat} {s t : Nat} {m : Int32} {y : UInt64}
theorem sm_await_c {q : Nat} (H : rl_All K L I D R k c) (ht : t < 6) (hs : s < 8) (hq : q < 8) (hl1 : ¬ (Op.cmpValue (FP.dcmp y (FP.i2d (-1))) .l) < 0) (hl2 : (Op.cmpValue (FP.dcmp y (FP.i2d 1000)) .g) ≤ 0) (hc : c + 6 ≤ 2 ^ 20) (p5 : K 5 t = -1) (i5 : I 5 t = -1) (i1 : I 1 t = 0) (hk : cw_cl (K 12 s) = 8) (hi : I 12 s = 6) (e16 : I 16 s = nI q) (hkq : I 12 q = 0 ∨ I 12 q = 1) : sm_ok A mq B md_Hall_await [.ref (A 0), .int (nI t), .int (nI s), .double y] md_Mod_await [.ref mq, .int (nI t), .int (nI s), .double y] K L I D k (c + 6) sm_4 := by
  have hl1' : ¬ (Op.cmpValue (FP.dcmp y 13830554455654793216) .l) < 0 := by rw [← fp_im1]; exact hl1
  have hl2' : (Op.cmpValue (FP.dcmp y 4652007308841189376) .g) ≤ 0 := by rw [← fp_i1000]; exact hl2
  obtain ⟨t1, t2, t3, t4, t5, t6, t7, t8, t9, hp⟩ := H.1 t ht
  obtain ⟨hr, hri, hnd, -⟩ := H.2.2.2.1 s hs
  obtain ⟨hrq, hriq, hndq, -⟩ := H.2.2.2.1 q hq
  have hlen := rl_len hr hnd ht (rl_run H ht i5 hs)
  have hlenq := rl_len hrq hndq ht (rl_run H ht i5 hq)
  have k16 : K 16 s = nI q := (H.2.1 s hs).2.2.2.2.1.trans e16
  have hkq' : cw_cl (K 12 q) = 4 := by rw [(H.2.1 q hq).1]; exact cw_cl_4 hkq
  have hqs : q ≠ s := fun e => by subst e; rw [hi] at hkq; exact absurd hkq (by decide)
  have hq6 : ¬ I 12 q = 6 := fun e => by rw [e] at hkq; exact absurd hkq (by decide)
  obtain ⟨g1, g2, g3, g4, g5, g6, -⟩ := H.2.2.2.2.2.2
  obtain ⟨r1, r2, r3⟩ := rl_running H ht i5
  rcases rl_own H hq ht with ⟨o1, o2⟩ | ⟨u, hu, o1, o2, o3⟩ | ⟨u, hu, o1, o2, o3⟩
  · exact (sm_t1 3 H (ct_Hall_await_1 ht hs hq k16 hl1 hl2 p5 hr hlen hk hkq' o1) (mx_Mod_await_c_5 ht hs hq e16 hl1' hl2' hi i1 o2) (by decide) (by decide)).mono (by omega)
  rotate_left
  · exact (sm_t1 3 H (ct_Hall_await_6 ht hs hq k16 hl1 hl2 p5 hr hlen hk hkq' hu o1 o2) (mx_Mod_await_c_5 ht hs hq e16 hl1' hl2' hi i1 o3) (by decide) (by decide)).mono (by omega)
  by_cases hf : I 2 t = 0
  rotate_left
  · have hf' : ¬ K 2 t = 0 := by rw [t1]; exact hf
    exact (sm_r (ct_Hall_await_5 ht hs hq k16 hl1 hl2 p5 hr hlen hk hkq' hu o1 o2 (sp_nar (by rw [t1]; exact t7)) hf') (mx_Mod_await_c_4 ht hs hq e16 hl1' hl2' hi i1 o3 hf) (sm_drop H ht i5) rfl (by rw [sh_u2_row (by decide), sh_u2_row (by decide), sh_u2_eq])).mono (by omega)
  have hf' : K 2 t = 0 := t1.trans hf
  have eK : sh_u2 K 2 t 0 = K := by rw [← hf']; exact sh_u2_self K 2 t
  have H0 := rl_00 (x := 0) H
  have j12 : ∀ z, sh_u2 I 0 0 0 12 z = I 12 z := fun z => sh_u2_row (by decide) z
  have j13 : sh_u2 I 0 0 0 13 q = nI t := (sh_u2_row (by decide) q).trans o3
  have j14 : sh_u2 I 0 0 0 14 q = I 14 q := sh_u2_row (by decide) q
  have j16 : sh_u2 I 0 0 0 16 s = nI q := (sh_u2_row (by decide) s).trans e16
  have j5 : sh_u2 I 0 0 0 5 t = -1 := (sh_u2_row (by decide) t).trans i5
  by_cases g : (Op.cmpValue (FP.dcmp y FP.dconst0) .l) = 0
  · have HA := rl_again (x := 2) H0 hq ht (by rw [j12]; exact hkq) j5 j13 rfl rfl rfl rfl
    rw [j14] at HA
    have hR : rl_R R q (R q ++ [t]) q = R q ++ [t] := rl_R_eq
    have S := rl_serve6 HA hq hc (by simp [sp_mqI, sp_ment, sh_u2]; exact hq6)
    rw [hR, show sh_u2 L 8 t (L 11 0) 11 0 = L 11 0 from sh_u2_row (by decide) 0] at S
    have eD : sp_mqD D t = sh_u2 (sh_u2 D 7 t 13830554455654793216) 8 t (D 11 0) := by unfold sp_mqD; rw [sh_d11]
    rw [← eD] at S
    obtain ⟨S1, S2, R', S3, -⟩ := S
    have q1 := ct_Hall_await_2 (A := A) (L := L) (l73 := R q) ht hs hq k16 hl1 hl2 p5 hr hlen hk hkq' hu o1 o2 (sp_nar (.inl hf')) hf' g (by rw [eK]; exact cw_row_up (by decide) (cw_row_up (by decide) (cw_row_up (by decide) hrq))) hlenq (by rw [eK]; exact S1)
    rw [eK] at q1
    refine sm_r q1 (mx_Mod_await_c_1 ht hs hq e16 hl1' hl2' hi i1 o3 hf g ⟨q, R q, _, _, hq, ?_, ?_, .inr ⟨?_, rfl, rfl⟩, cw_row_up (by decide) (cw_row_up (by decide) (cw_row_up (by decide) (cw_row_up (by decide) (cw_row_up (by decide) hriq)))), hlenq, S2, rfl, rfl⟩) S3 ?_ ?_
    · simp [sh_u2]; exact e16
    · simp [sh_u2]; exact hq6
    · simp [sh_u2, i5]; exact nI_m1 (by omega)
    · have := (S3.1 t ht).2.1
      unfold sp_qfl
      rw [this]
    · rw [sp_mserve_00]; simp [sp_mqI, sp_ment, sh_u2]
  · have wait : ∀ {e : Int32} {x z : UInt64}, rl_en e x z → sp_svok (L 11 0) q (R q).length (sh_u2 (sp_enq (sh_u2 (sh_u2 (sh_u2 K 9 t (K 14 q)) 13 q (-1)) 14 q 0) s t 0 (R s)) 26 t e) (sh_u2 (sh_u2 L 8 t (L 11 0)) 7 t x) (R q) ∧ sp_mvok q (R q).length (sp_ment (sh_u2 (sh_u2 (sh_u2 (sh_u2 (sh_u2 (sh_u2 I 0 0 0) 9 t (I 14 q)) 13 q (-1)) 14 q 0) 4 t 0) 6 t 0) s t (R s)) (sh_u2 (sh_u2 D 7 t z) 8 t (D 11 0)) (R q) ∧ ∃ R', rl_All (sp_serve (L 11 0) q (R q).length (sh_u2 (sp_enq (sh_u2 (sh_u2 (sh_u2 K 9 t (K 14 q)) 13 q (-1)) 14 q 0) s t 0 (R s)) 26 t e) (sh_u2 (sh_u2 L 8 t (L 11 0)) 7 t x) (R q)).1 (sp_serve (L 11 0) q (R q).length (sh_u2 (sp_enq (sh_u2 (sh_u2 (sh_u2 K 9 t (K 14 q)) 13 q (-1)) 14 q 0) s t 0 (R s)) 26 t e) (sh_u2 (sh_u2 L 8 t (L 11 0)) 7 t x) (R q)).2 (sp_mserve q (R q).length (sp_ment (sh_u2 (sh_u2 (sh_u2 (sh_u2 (sh_u2 (sh_u2 I 0 0 0) 9 t (I 14 q)) 13 q (-1)) 14 q 0) 4 t 0) 6 t 0) s t (R s)) (sh_u2 (sh_u2 D 7 t z) 8 t (D 11 0)) (R q)).1 (sp_mserve q (R q).length (sp_ment (sh_u2 (sh_u2 (sh_u2 (sh_u2 (sh_u2 (sh_u2 I 0 0 0) 9 t (I 14 q)) 13 q (-1)) 14 q 0) 4 t 0) 6 t 0) s t (R s)) (sh_u2 (sh_u2 D 7 t z) 8 t (D 11 0)) (R q)).2 R' k (c + 6) := fun he => by
      have HA := rl_await H0 hs hq ht (by rw [j12]; exact hi) j16 (by rw [j12]; exact hkq) j5 j13 he rfl rfl rfl rfl
      rw [j14] at HA
      have hR : rl_R R s (R s ++ [t]) q = R q := rl_R_ne hqs
      have S := rl_serve6 HA hq hc (by simp [sp_ment, sh_u2]; exact hq6)
      rw [hR, sh_u2_row (by decide), sh_u2_row (by decide)] at S
      obtain ⟨S1, S2, R', S3, -⟩ := S
      exact ⟨S1, S2, R', S3⟩
    have row1 : cw_row (sh_u2 (sh_u2 (sh_u2 (sh_u2 (sh_u2 (sh_u2 I 0 0 0) 9 t (I 14 q)) 13 q (-1)) 14 q 0) 4 t 0) 6 t 0) s (R s) := cw_row_up (by decide) (cw_row_up (by decide) (cw_row_up (by decide) (cw_row_up (by decide) (cw_row_up (by decide) (cw_row_up (by decide) hri)))))
    have row2 : cw_row (sp_ment (sh_u2 (sh_u2 (sh_u2 (sh_u2 (sh_u2 (sh_u2 I 0 0 0) 9 t (I 14 q)) 13 q (-1)) 14 q 0) 4 t 0) 6 t 0) s t (R s)) q (R q) := cw_row_f (X := sp_enq (sh_u2 (sh_u2 (sh_u2 (sh_u2 (sh_u2 (sh_u2 I 0 0 0) 9 t (I 14 q)) 13 q (-1)) 14 q 0) 4 t 0) 6 t 0) s t 0 (R s)) (fun _ => rfl) (fun _ => rfl) (cw_row_enq' (fun e => hqs e.symm) hlen (cw_row_up (by decide) (cw_row_up (by decide) (cw_row_up (by decide) (cw_row_up (by decide) (cw_row_up (by decide) (cw_row_up (by decide) hriq)))))))
    have row3 : cw_row (sp_enq (sh_u2 (sh_u2 (sh_u2 K 9 t (K 14 q)) 13 q (-1)) 14 q 0) s t 0 (R s)) q (R q) := cw_row_enq' (fun e => hqs e.symm) hlen (cw_row_up (by decide) (cw_row_up (by decide) (cw_row_up (by decide) hrq)))
    by_cases g' : (Op.cmpValue (FP.dcmp y FP.dconst0) .l) ≤ 0
    · obtain ⟨S1, S2, R', S3⟩ := wait (e := 0) (x := L 7 t) (.inr ⟨rfl, fp_m1⟩)
      have eK2 : sh_u2 (sp_enq (sh_u2 (sh_u2 (sh_u2 K 9 t (K 14 q)) 13 q (-1)) 14 q 0) s t 0 (R s)) 26 t 0 = sp_enq (sh_u2 (sh_u2 (sh_u2 K 9 t (K 14 q)) 13 q (-1)) 14 q 0) s t 0 (R s) := by
        have : sp_enq (sh_u2 (sh_u2 (sh_u2 K 9 t (K 14 q)) 13 q (-1)) 14 q 0) s t 0 (R s) 26 t = 0 := by simp [sp_enq, sh_u2]; exact r2
        rw [← this]; exact sh_u2_self _ 26 t
      have eL2 : sh_u2 (sh_u2 L 8 t (L 11 0)) 7 t (L 7 t) = sh_u2 L 8 t (L 11 0) := by
        have : sh_u2 L 8 t (L 11 0) 7 t = L 7 t := sh_u2_row (by decide) t
        rw [← this]; exact sh_u2_self _ 7 t
      rw [eK2, eL2] at S1 S3
      have q1 := ct_Hall_await_3 (A := A) (L := L) (l107 := R q) ht hs hq k16 hl1 hl2 p5 hr hlen hk hkq' hu o1 o2 (sp_nar (.inl hf')) hf' g g' (by rw [eK]; exact row3) (by rw [eK]; exact S1)
      rw [eK] at q1
      have q2 := mx_Mod_await_c_2 (mq := mq) (A := B) (D := D) (l174 := R q) ht hs hq e16 hl1' hl2' hi i1 o3 hf g g' row1 hlen hq6 row2 (by rw [sh_d11]; exact S2)
      rw [sh_d11] at q2
      exact sm_r q1 q2 S3 (by rw [(S3.1 t ht).2.1]) (by rw [sp_mserve_00]; simp [sp_ment, sh_u2])
    · obtain ⟨f1, f2⟩ := fp_by (fun q => g' (by
        rw [Int32.le_iff_toInt_le]
        rw [Int32.lt_iff_toInt_lt] at q
        omega)) hl2'
      have hv : vf_n64 (FP.dadd (D 11 0) y) := (g4.add f1 (by omega)).vf
      have hv' : vf_n64 (FP.dadd (L 11 0) y) := by rw [g3]; exact hv
      have hn : ¬ rl_neg (FP.dadd (D 11 0) y) := fun q => by
        have := (fp_neg' (g4.add f1 (by omega))).mp q
        have := fp_add0 g4 f1 g5 f2
        omega
      obtain ⟨S1, S2, R', S3⟩ := wait (e := 1) (x := FP.dadd (L 11 0) y) (z := FP.dadd (D 11 0) y) (.inl ⟨rfl, by rw [g3], hn⟩)
      have q1 := ct_Hall_await_4 (A := A) (L := L) (l107 := R q) ht hs hq k16 hl1 hl2 p5 hr hlen hk hkq' hu o1 o2 (sp_nar (.inl hf')) hf' g g' hv' (by rw [eK]; exact cw_row_up (by decide) row3) (by rw [eK]; exact S1)
      rw [eK] at q1
      have q2 := mx_Mod_await_c_3 (mq := mq) (A := B) (D := D) (l174 := R q) ht hs hq e16 hl1' hl2' hi i1 o3 hf g g' hv row1 hlen hq6 row2 (by rw [sh_d11]; exact S2)
      rw [sh_d11] at q2
      exact sm_r q1 q2 S3 (by rw [(S3.1 t ht).2.1]) (by rw [sp_mserve_00]; simp [sp_ment, sh_u2])
theorem sm_await {x o : Int32} (H : rl_All K L I D R k c) (hc : c + 6 ≤ 2 ^ 20) : sm_ok A mq B md_Hall_await [.ref (A 0), .int x, .int o, .double y] md_Mod_await [.ref mq, .int x, .int o, .double y] K L I D k (c + 6) sm_4 := by
  rcases sm_rng (a := 5) (b := 6) (m := 5) (by decide) (by decide) x with h | ⟨h1, h2, h3⟩ | ⟨t, ht, rfl, -⟩
  · exact (sm_t1 1 H (ct_Hall_await_x_1 h) (mx_Mod_await_x_1 h) (by decide) (by decide)).mono (by omega)
  · exact (sm_t1 1 H (ct_Hall_await_x_2 h1 h2) (mx_Mod_await_x_6 h1 h3) (by decide) (by decide)).mono (by omega)
  by_cases f : (Op.cmpValue (FP.dcmp y (FP.i2d (-1))) .l) < 0
  · rcases sm_rng (a := 7) (b := 8) (m := 7) (by decide) (by decide) o with g | ⟨g1, g2, g3⟩ | ⟨s, hs, -, g1, g2, g3⟩
    · exact (sm_t1 1 H (ct_Hall_await_t_1 ht f) (mx_Mod_await_t_1 ht g) (by decide) (by decide)).mono (by omega)
    · exact (sm_t1 1 H (ct_Hall_await_t_1 ht f) (mx_Mod_await_t_4 ht g1 g3) (by decide) (by decide)).mono (by omega)
    · exact (sm_t1 1 H (ct_Hall_await_t_1 ht f) (mx_Mod_await_t_2 ht g1 g3 (by rw [← fp_im1]; exact f)) (by decide) (by decide)).mono (by omega)
  by_cases f2 : (Op.cmpValue (FP.dcmp y (FP.i2d 1000)) .g) ≤ 0
  rotate_left
  · rcases sm_rng (a := 7) (b := 8) (m := 7) (by decide) (by decide) o with g | ⟨g1, g2, g3⟩ | ⟨s, hs, -, g1, g2, g3⟩
    · exact (sm_t1 1 H (ct_Hall_await_t_4 ht f f2) (mx_Mod_await_t_1 ht g) (by decide) (by decide)).mono (by omega)
    · exact (sm_t1 1 H (ct_Hall_await_t_4 ht f f2) (mx_Mod_await_t_4 ht g1 g3) (by decide) (by decide)).mono (by omega)
    · exact (sm_t1 1 H (ct_Hall_await_t_4 ht f f2) (mx_Mod_await_t_3 ht g1 g3 (by rw [← fp_im1]; exact f) (by rw [← fp_i1000]; exact f2)) (by decide) (by decide)).mono (by omega)
  have f' : ¬ (Op.cmpValue (FP.dcmp y 13830554455654793216) .l) < 0 := by rw [← fp_im1]; exact f
  have f2' : (Op.cmpValue (FP.dcmp y 4652007308841189376) .g) ≤ 0 := by rw [← fp_i1000]; exact f2
  rcases sm_rng (a := 7) (b := 8) (m := 7) (by decide) (by decide) o with g | ⟨g1, g2, g3⟩ | ⟨s, hs, rfl, g1, g2, g3⟩
  · exact (sm_t1 1 H (ct_Hall_await_t_2 ht f f2 g) (mx_Mod_await_t_1 ht g) (by decide) (by decide)).mono (by omega)
  · exact (sm_t1 1 H (ct_Hall_await_t_3 ht f f2 g1 g2) (mx_Mod_await_t_4 ht g1 g3) (by decide) (by decide)).mono (by omega)
  have y1 := (H.2.1 s hs).1
  have y8 := (H.2.1 s hs).2.2.2.2.2.2.2.1
  rw [← y1] at y8
  rcases rl_place H ht with ⟨p5, i5, i1⟩ | ⟨b, hb, p5, -, i1, -⟩
  · rcases rl_kdcl y8 with ⟨e, hk, h0⟩ | ⟨hk, h0, e⟩ | ⟨hk, h0, e⟩ | ⟨hk, h0, e⟩ | ⟨hk, h0, e⟩ | ⟨hk, h0, e⟩ <;> rw [y1] at e h0
    · exact (sm_t1 2 H (ct_Hall_await_none_1 ht hs hk f f2) (mx_Mod_await_n_3 ht hs f' f2' (by rw [e]; decide) h0) (by decide) (by decide)).mono (by omega)
    · exact (sm_t1 4 H (ct_Hall_await_Lock_1 ht hs f f2 hk p5) (mx_Mod_await_n_1 ht hs f' f2' (by rcases e with e | e <;> rw [e] <;> decide) h0 i1) (by decide) (by decide)).mono (by omega)
    · exact (sm_t1 4 H (ct_Hall_await_Semaphore_1 ht hs f f2 hk p5) (mx_Mod_await_n_1 ht hs f' f2' (by rcases e with e | e <;> rw [e] <;> decide) h0 i1) (by decide) (by decide)).mono (by omega)
    · exact (sm_t1 4 H (ct_Hall_await_Latch_1 ht hs f f2 hk p5) (mx_Mod_await_n_1 ht hs f' f2' (by rw [e]; decide) h0 i1) (by decide) (by decide)).mono (by omega)
    · exact (sm_t1 4 H (ct_Hall_await_Shared_1 ht hs f f2 hk p5) (mx_Mod_await_n_1 ht hs f' f2' (by rw [e]; decide) h0 i1) (by decide) (by decide)).mono (by omega)
    · obtain ⟨q, hq, e16, hkq⟩ := H.2.2.1 s hs e
      exact sm_await_c H ht hs hq f f2 hc p5 i5 i1 hk e e16 hkq
  · rcases rl_kdcl y8 with ⟨e, hk, h0⟩ | ⟨hk, h0, e⟩ | ⟨hk, h0, e⟩ | ⟨hk, h0, e⟩ | ⟨hk, h0, e⟩ | ⟨hk, h0, e⟩ <;> rw [y1] at e h0
    · exact (sm_t1 2 H (ct_Hall_await_none_1 ht hs hk f f2) (mx_Mod_await_n_3 ht hs f' f2' (by rw [e]; decide) h0) (by decide) (by decide)).mono (by omega)
    · exact (sm_t1 3 H (ct_Hall_await_Lock_2 ht hs f f2 hk hb p5) (mx_Mod_await_n_2 ht hs f' f2' (by rcases e with e | e <;> rw [e] <;> decide) h0 i1) (by decide) (by decide)).mono (by omega)
    · exact (sm_t1 3 H (ct_Hall_await_Semaphore_2 ht hs f f2 hk hb p5) (mx_Mod_await_n_2 ht hs f' f2' (by rcases e with e | e <;> rw [e] <;> decide) h0 i1) (by decide) (by decide)).mono (by omega)
    · exact (sm_t1 3 H (ct_Hall_await_Latch_2 ht hs f f2 hk hb p5) (mx_Mod_await_n_2 ht hs f' f2' (by rw [e]; decide) h0 i1) (by decide) (by decide)).mono (by omega)
    · exact (sm_t1 3 H (ct_Hall_await_Shared_2 ht hs f f2 hk hb p5) (mx_Mod_await_n_2 ht hs f' f2' (by rw [e]; decide) h0 i1) (by decide) (by decide)).mono (by omega)
    · obtain ⟨q, hq, e16, hkq⟩ := H.2.2.1 s hs e
      have k16 : K 16 s = nI q := (H.2.1 s hs).2.2.2.2.1.trans e16
      have hkq' : cw_cl (K 12 q) = 4 := by rw [(H.2.1 q hq).1]; exact cw_cl_4 hkq
      exact (sm_t1 3 H (ct_Hall_await_b_1 ht hs hq k16 f f2 hb p5 hk hkq') (mx_Mod_await_c_6 ht hs hq e16 f' f2' e i1) (by decide) (by decide)).mono (by omega)
end SMF
section SMG
variable {A : Nat → Nat} {mq : Nat} {B : Nat → Nat} {K K' : sh_II} {L L' : sh_DD} {I I' : sh_II} {D D' : sh_DD} {R R' : Nat → List Nat} {k c : Nat} {s t : Nat} {m : Int32} {y : UInt64}
theorem sg_C {x o a : Int32} {r : Option Value ⊕ Nat} (h : sh_cW A md_Hall_signal (0, [(0, .ref (A 0)), (1, .int x), (2, .int o), (3, .int a)], []) K L 0 0 r K' L') : sh_cM A md_Hall_signal [.ref (A 0), .int x, .int o, .int a] K L r K' L' := h
theorem sg_M {x o a : Int32} {v : Option Value} (h : sh_mW mq B md_Mod_signal (0, [(0, .ref mq), (1, .int x), (2, .int o), (3, .int a)], []) I D 0 0 v I' D') : sh_mM mq B md_Mod_signal [.ref mq, .int x, .int o, .int a] I D v I' D' := h
theorem tk_C {r : Option Value ⊕ Nat} (h : sh_cW A md_Hall_tick (0, [(0, .ref (A 0)), (1, .double y)], []) K L 0 0 r K' L') : sh_cM A md_Hall_tick [.ref (A 0), .double y] K L r K' L' := h
theorem tk_M {v : Option Value} (h : sh_mW mq B md_Mod_tick (0, [(0, .ref mq), (1, .double y)], []) I D 0 0 v I' D') : sh_mM mq B md_Mod_tick [.ref mq, .double y] I D v I' D' := h
theorem sp_MQ_12 {t s : Nat} {x : Int32} (h : sp_MQ I D t s x I' D') (z : Nat) : I' 12 z = I 12 z := by
  obtain ⟨q, l, I1, D1, hq, e16, hz, hR, hrow, hlen, hv, rfl, rfl⟩ := h
  rw [sp_mserve_keepK (by decide)]
  have e1 : sp_mqI I1 q t x l 12 z = I1 12 z := by simp [sp_mqI, sp_ment, sh_u2]
  rw [e1]
  rcases hR with ⟨-, l1, -, -, -, h⟩ | ⟨-, h, -⟩
  · rcases h with ⟨-, -, -, h, -⟩ | ⟨-, h, -⟩ <;> rw [h] <;> simp [sp_mrem, sp_row, sp_r18, sh_u2]
  · rw [h]
theorem sg_first {r : List Nat} (H : rl_All K L I D R k c) (hs : s < 8) (hl : R s = t :: r) : ¬ I 19 s ≤ 0 ∧ t < 6 ∧ I 18 (6 * s) = nI t := by
  obtain ⟨⟨-, -, k18⟩, ⟨i19, il, i18⟩, -⟩ := H.2.2.2.1 s hs
  have h := i18 0 t (by rw [hl]; rfl)
  refine ⟨?_, h.2, h.1⟩
  rw [i19, hl]
  exact nI_nle (by simp) (by rw [hl] at il; omega)
theorem sg_all {a : Int32} (hs : s < 8) (ha : ¬ a = 0) : ∀ (l : List Nat) (K : sh_II) (L : sh_DD) (I : sh_II) (D : sh_DD) (R : Nat → List Nat) (c i e : Nat), rl_All K L I D R k c → R s = l → i + l.length = e → e < 2 ^ 31 → c + 7 * l.length ≤ 2 ^ 20 → I 12 s = 6 →
    ∃ K' L' I' D' R', sh_cW A md_Hall_signal (42, [(0, .ref (A 0)), (5, .ref (A (20 + s))), (6, .int (nI e)), (7, .int (nI i))], []) K L 6 36 (.inl (some (.int (nI e)))) K' L' ∧ sh_mW mq B md_Mod_signal (46, [(0, .ref mq), (2, .int (nI s)), (3, .int a), (4, .int (nI i))], []) I D 0 0 (some (.int (nI e))) I' D' ∧ rl_All K' L' I' D' R' k (c + 7 * l.length) ∧ I' 0 0 = I 0 0 := by
  intro l
  induction l with
  | nil =>
    intro K L I D R c i e H hl hi he hc hz
    have : i = e := by simpa using hi
    subst this
    obtain ⟨-, ⟨i19, -⟩, -⟩ := H.2.2.2.1 s hs
    rw [hl] at i19
    exact ⟨K, L, I, D, R, cb_Hall_signal_e_42_1 hs (nI_le (Nat.le_refl _) he), mb_Mod_signal_e_46_1 hs (by rw [i19]; decide), H, rfl⟩
  | cons t r ih =>
    intro K L I D R c i e H hl hi he hc hz
    have hlen : (t :: r).length = r.length + 1 := rfl
    rw [hlen] at hi hc
    obtain ⟨n1, n2, n3⟩ := sg_first H hs hl
    obtain ⟨K', L', I', D', R', g1, g2, g3, g4⟩ := rl_signalFirst H hs hl hz (by omega)
    have z' : I' 12 s = 6 := (sp_MQ_12 g2 s).trans hz
    obtain ⟨K2, L2, I2, D2, R2, a1, a2, a3, a4⟩ := ih K' L' I' D' R' (c + 7) (i + 1) e g3 g4 (by omega) he (by omega) z'
    refine ⟨K2, L2, I2, D2, R2, cb_Hall_signal_42_1 hs (nI_ge (by omega) he) (by rw [(H.2.1 s hs).1, hz]; decide) g1 a1, mb_Mod_signal_46_3 hs n1 n2 n3 ha g2 a2, a3.mono (by rw [hlen]; omega), a4.trans (sp_MQ_00 g2)⟩
theorem sm_signal_c {q : Nat} {a : Int32} (H : rl_All K L I D R k c) (ht : t < 6) (hs : s < 8) (hq : q < 8) (hc : c + 42 ≤ 2 ^ 20) (p5 : K 5 t = -1) (i1 : I 1 t = 0) (hk : cw_cl (K 12 s) = 8) (hi : I 12 s = 6) (e16 : I 16 s = nI q) (hkq : I 12 q = 0 ∨ I 12 q = 1) : sm_ok A mq B md_Hall_signal [.ref (A 0), .int (nI t), .int (nI s), .int a] md_Mod_signal [.ref mq, .int (nI t), .int (nI s), .int a] K L I D k (c + 42) sm_4 := by
  have k16 : K 16 s = nI q := (H.2.1 s hs).2.2.2.2.1.trans e16
  have hkq' : cw_cl (K 12 q) = 4 := by rw [(H.2.1 q hq).1]; exact cw_cl_4 hkq
  rcases rl_own H hq ht with ⟨o1, o2⟩ | ⟨u, hu, o1, o2, o3⟩ | ⟨u, hu, o1, o2, o3⟩
  · exact (sm_t1 3 H (sg_C (cb_Hall_signal_p_0_1 ht hs hq k16 p5 hk hkq' o1)) (sg_M (mb_Mod_signal_p_0_2 ht hs hq e16 hi i1 o2)) (by decide) (by decide)).mono (by omega)
  rotate_left
  · exact (sm_t1 3 H (sg_C (cb_Hall_signal_p_0_5 ht hs hq k16 p5 hk hkq' hu o1 o2)) (sg_M (mb_Mod_signal_p_0_2 ht hs hq e16 hi i1 o3)) (by decide) (by decide)).mono (by omega)
  have H0 := rl_00 (x := 0) H
  have z0 : sh_u2 I 0 0 0 12 s = 6 := (sh_u2_row (by decide) s).trans hi
  have k19 : K 19 s = nI (R s).length := (H.2.2.2.1 s hs).1.1
  have hl6 := rl_len6 H hs
  by_cases ha : a = 0
  · cases hl : R s with
    | nil =>
      have i19 : sh_u2 I 0 0 0 19 s = nI 0 := by rw [(H0.2.2.2.1 s hs).2.1.1, hl]; rfl
      have e19 : K 19 s = nI 0 := by rw [k19, hl]; rfl
      have c1 := cb_Hall_signal_p_0_2 (A := A) (L := L) ht hs hq k16 p5 hk hkq' hu o1 o2 ha (by rw [e19]; decide) (v9 := .inl (some (.int (nI 0)))) (by rw [e19]; exact cb_Hall_signal_e_42_1 (i := 0) (e := 0) (K := K) (L := L) hs (by decide))
      have c2 := mb_Mod_signal_p_0_1 (mq := mq) (A := B) (D := D) (a := a) ht hs hq e16 hi i1 o3 (mb_Mod_signal_e_46_1 (e := 0) hs (by rw [i19]; decide))
      exact (sm_r (sg_C c1) (sg_M c2) H0 rfl (sh_u2_eq _ _ _ _)).mono (by omega)
    | cons f r =>
      obtain ⟨n1, n2, n3⟩ := sg_first H0 hs hl
      obtain ⟨K', L', I', D', R', g1, g2, g3, g4⟩ := rl_signalFirst H0 hs hl z0 (by omega)
      have stepC : sh_cW A md_Hall_signal (42, [(0, .ref (A 0)), (5, .ref (A (20 + s))), (6, .int (nI 1)), (7, .int (nI 0))], []) K L 6 36 (.inl (some (.int (nI 1)))) K' L' := cb_Hall_signal_42_1 hs (by decide) hk g1 (cb_Hall_signal_e_42_1 hs (by decide))
      have c1 : sh_cM A md_Hall_signal [.ref (A 0), .int (nI t), .int (nI s), .int a] K L (.inl (some (.int (nI 1)))) K' L' := by
        by_cases h1 : r = []
        · have e19 : K 19 s = nI 1 := by rw [k19, hl, h1]; rfl
          exact cb_Hall_signal_p_0_2 ht hs hq k16 p5 hk hkq' hu o1 o2 ha (by rw [e19]; decide) (by rw [e19]; exact stepC)
        · have : ¬ K 19 s ≤ 1 := by
            rw [k19, hl]
            rw [hl] at hl6
            have : 0 < r.length := List.length_pos_iff.mpr h1
            exact nI_ge (a := 1) (by simp; omega) (by omega)
          exact cb_Hall_signal_p_0_3 ht hs hq k16 p5 hk hkq' hu o1 o2 ha this stepC
      have c2 : sh_mM mq B md_Mod_signal [.ref mq, .int (nI t), .int (nI s), .int a] I D (some (.int (nI 1))) I' D' := by
        refine mb_Mod_signal_p_0_1 ht hs hq e16 hi i1 o3 (mb_Mod_signal_46_1 (e := 0) hs n1 n2 n3 ha (by decide) g2 ?_)
        cases h1 : r with
        | nil =>
          have i19 : I' 19 s = nI 0 := by rw [(g3.2.2.2.1 s hs).2.1.1, g4, h1]; rfl
          exact mb_Mod_signal_e_46_1 hs (by rw [i19]; decide)
        | cons f2 r2 =>
          obtain ⟨q1, q2, q3⟩ := sg_first g3 hs (g4.trans h1)
          exact mb_Mod_signal_46_2 hs q1 q2 q3 ha (by decide)
      exact (sm_r c1 c2 g3 rfl ((sp_MQ_00 g2).trans (sh_u2_eq _ _ _ _))).mono (by omega)
  · obtain ⟨K', L', I', D', R', a1, a2, a3, a4⟩ := sg_all (A := A) (mq := mq) (B := B) hs ha (R s) K L (sh_u2 I 0 0 0) D R c 0 (R s).length H0 rfl (by omega) (by omega) (by omega) z0
    have c1 := cb_Hall_signal_p_0_4 (A := A) (L := L) ht hs hq k16 p5 hk hkq' hu o1 o2 ha (by rw [k19]; exact a1)
    have c2 := mb_Mod_signal_p_0_1 (mq := mq) (A := B) (D := D) ht hs hq e16 hi i1 o3 a2
    exact (sm_r (sg_C c1) (sg_M c2) a3 rfl (a4.trans (sh_u2_eq _ _ _ _))).mono (by omega)
theorem sm_signal {x o a : Int32} (H : rl_All K L I D R k c) (hc : c + 42 ≤ 2 ^ 20) : sm_ok A mq B md_Hall_signal [.ref (A 0), .int x, .int o, .int a] md_Mod_signal [.ref mq, .int x, .int o, .int a] K L I D k (c + 42) sm_4 := by
  rcases sm_rng (a := 5) (b := 6) (m := 5) (by decide) (by decide) x with h | ⟨h1, h2, h3⟩ | ⟨t, ht, rfl, -⟩
  · exact (sm_t1 1 H (ct_Hall_signal_x_1 h) (mx_Mod_signal_x_1 h) (by decide) (by decide)).mono (by omega)
  · exact (sm_t1 1 H (ct_Hall_signal_x_2 h1 h2) (mx_Mod_signal_x_4 h1 h3) (by decide) (by decide)).mono (by omega)
  rcases sm_rng (a := 7) (b := 8) (m := 7) (by decide) (by decide) o with g | ⟨g1, g2, g3⟩ | ⟨s, hs, rfl, g1, g2, g3⟩
  · exact (sm_t1 1 H (ct_Hall_signal_t_1 ht g) (mx_Mod_signal_t_1 ht g) (by decide) (by decide)).mono (by omega)
  · exact (sm_t1 1 H (ct_Hall_signal_t_2 ht g1 g2) (mx_Mod_signal_t_2 ht g1 g3) (by decide) (by decide)).mono (by omega)
  have y1 := (H.2.1 s hs).1
  have y8 := (H.2.1 s hs).2.2.2.2.2.2.2.1
  rw [← y1] at y8
  rcases rl_place H ht with ⟨p5, i5, i1⟩ | ⟨b, hb, p5, -, i1, -⟩
  · rcases rl_kdcl y8 with ⟨e, hk, h0⟩ | ⟨hk, h0, e⟩ | ⟨hk, h0, e⟩ | ⟨hk, h0, e⟩ | ⟨hk, h0, e⟩ | ⟨hk, h0, e⟩ <;> rw [y1] at e h0
    · exact (sm_t1 2 H (ct_Hall_signal_none_1 ht hs hk) (mx_Mod_signal_n_3 ht hs (by rw [e]; decide) h0) (by decide) (by decide)).mono (by omega)
    · exact (sm_t1 4 H (ct_Hall_signal_Lock_1 ht hs hk p5) (mx_Mod_signal_n_1 ht hs (by rcases e with e | e <;> rw [e] <;> decide) h0 i1) (by decide) (by decide)).mono (by omega)
    · exact (sm_t1 4 H (ct_Hall_signal_Semaphore_1 ht hs hk p5) (mx_Mod_signal_n_1 ht hs (by rcases e with e | e <;> rw [e] <;> decide) h0 i1) (by decide) (by decide)).mono (by omega)
    · exact (sm_t1 4 H (ct_Hall_signal_Latch_1 ht hs hk p5) (mx_Mod_signal_n_1 ht hs (by rw [e]; decide) h0 i1) (by decide) (by decide)).mono (by omega)
    · exact (sm_t1 4 H (ct_Hall_signal_Shared_1 ht hs hk p5) (mx_Mod_signal_n_1 ht hs (by rw [e]; decide) h0 i1) (by decide) (by decide)).mono (by omega)
    · obtain ⟨q, hq, e16, hkq⟩ := H.2.2.1 s hs e
      exact sm_signal_c H ht hs hq hc p5 i1 hk e e16 hkq
  · rcases rl_kdcl y8 with ⟨e, hk, h0⟩ | ⟨hk, h0, e⟩ | ⟨hk, h0, e⟩ | ⟨hk, h0, e⟩ | ⟨hk, h0, e⟩ | ⟨hk, h0, e⟩ <;> rw [y1] at e h0
    · exact (sm_t1 2 H (ct_Hall_signal_none_1 ht hs hk) (mx_Mod_signal_n_3 ht hs (by rw [e]; decide) h0) (by decide) (by decide)).mono (by omega)
    · exact (sm_t1 3 H (ct_Hall_signal_Lock_2 ht hs hk hb p5) (mx_Mod_signal_n_2 ht hs (by rcases e with e | e <;> rw [e] <;> decide) h0 i1) (by decide) (by decide)).mono (by omega)
    · exact (sm_t1 3 H (ct_Hall_signal_Semaphore_2 ht hs hk hb p5) (mx_Mod_signal_n_2 ht hs (by rcases e with e | e <;> rw [e] <;> decide) h0 i1) (by decide) (by decide)).mono (by omega)
    · exact (sm_t1 3 H (ct_Hall_signal_Latch_2 ht hs hk hb p5) (mx_Mod_signal_n_2 ht hs (by rw [e]; decide) h0 i1) (by decide) (by decide)).mono (by omega)
    · exact (sm_t1 3 H (ct_Hall_signal_Shared_2 ht hs hk hb p5) (mx_Mod_signal_n_2 ht hs (by rw [e]; decide) h0 i1) (by decide) (by decide)).mono (by omega)
    · obtain ⟨q, hq, e16, hkq⟩ := H.2.2.1 s hs e
      have k16 : K 16 s = nI q := (H.2.1 s hs).2.2.2.2.1.trans e16
      have hkq' : cw_cl (K 12 q) = 4 := by rw [(H.2.1 q hq).1]; exact cw_cl_4 hkq
      exact (sm_t1 3 H (ct_Hall_signal_b_1 ht hs hq k16 hb p5 hk hkq') (sg_M (mb_Mod_signal_p_0_3 ht hs hq e16 e i1)) (by decide) (by decide)).mono (by omega)
/-- time goes on -/
theorem tk_loop : ∀ (n i e : Nat) (K : sh_II) (L : sh_DD) (I : sh_II) (D : sh_DD) (R : Nat → List Nat) (c : Nat), rl_All K L I D R k c → i + n = 6 → rl_n26 K ≤ n → c + 6 * n ≤ 2 ^ 20 →
    ∃ e' K' L' I' D' R', sh_cW A md_Hall_tick (23, [(0, .ref (A 0)), (3, .int (nI e)), (4, .int (nI i))], []) K L (0 + 1) (0 + 6) (.inl (some (.int (nI e')))) K' L' ∧ sh_mW mq B md_Mod_tick (43, [(0, .ref mq), (3, .int (nI e)), (4, .int (sp_oi (sp_mlate I D)))], []) I D 0 0 (some (.int (nI e'))) I' D' ∧ rl_All K' L' I' D' R' k (c + 6 * n) ∧ I' 0 0 = I 0 0 := by
  intro n
  induction n with
  | zero =>
    intro i e K L I D R c H hi h26 hc
    obtain ⟨l1, l2⟩ := rl_late H
    have hn : sp_late K L = none := by
      cases h : sp_late K L with
      | none => rfl
      | some j => exact absurd (rl_n26_0 (by omega) (l2 j h).1) (l2 j h).2
    have hi6 : i = 6 := by omega
    subst hi6
    refine ⟨e, K, L, I, D, R, cb_Hall_tick_e_23_1 (by decide), ?_, H, rfl⟩
    rw [← l1, hn]
    exact mb_Mod_tick_e_43_1
  | succ n ih =>
    intro i e K L I D R c H hi h26 hc
    obtain ⟨l1, l2⟩ := rl_late H
    have hx : ¬ (6 : Int32) ≤ nI i := nI_ge (b := 6) (by omega) (by decide)
    cases h : sp_late K L with
    | none =>
      refine ⟨e, K, L, I, D, R, cb_Hall_tick_23_1 (by omega) hx h, ?_, H.mono (by omega), rfl⟩
      rw [← l1, h]
      exact mb_Mod_tick_e_43_1
    | some t =>
      obtain ⟨ht, hk⟩ := l2 t h
      obtain ⟨s, hs, hm⟩ := rl_end H ht hk
      obtain ⟨K', L', I', D', R', g1, g2, g3, g4, g5⟩ := rl_giveUp (x := 2) H hs hm (by decide) (by omega)
      have hlt := rl_n26_lt g4 ht hk g5
      obtain ⟨e', K2, L2, I2, D2, R2, a1, a2, a3, a4⟩ := ih (i + 1) (e + 1) K' L' I' D' R' (c + 6) g3 (by omega) (by omega) (by omega)
      have i5 := (rl_waiting H hs hm).2.1
      refine ⟨e', K2, L2, I2, D2, R2, cb_Hall_tick_23_2 (by omega) hx ht h g1 a1, ?_, a3.mono (by omega), a4.trans (sp_MG_00 g2)⟩
      rw [← l1, h]
      rcases g2 with ⟨hz, g2⟩ | ⟨hz, l, l2, m1, m2, m3, m4, m5, rfl, rfl⟩
      · exact mb_Mod_tick_43_1 ht hs i5 hz g2 a2
      · exact mb_Mod_tick_43_2 ht hs i5 hz m1 m2 m3 m4 m5 a2
theorem sm_tick (H : rl_All K L I D R k c) (hk : k + 1 ≤ 512) (hc : c + 36 ≤ 2 ^ 20) : sm_ok A mq B md_Hall_tick [.ref (A 0), .double y] md_Mod_tick [.ref mq, .double y] K L I D (k + 1) (c + 36) sm_1 := by
  by_cases f : (Op.cmpValue (FP.dcmp y (FP.i2d 0)) .l) < 0
  · exact (sm_t2 1 (rl_kmono H hk) (tk_C (cb_Hall_tick_p_0_1 f)) (tk_M (mb_Mod_tick_p_0_1 (by rw [← fp_i0]; exact f))) (by decide) (by decide)).mono (by omega)
  by_cases f2 : (Op.cmpValue (FP.dcmp y (FP.i2d 1000)) .g) ≤ 0
  rotate_left
  · exact (sm_t2 1 (rl_kmono H hk) (tk_C (cb_Hall_tick_p_0_3 f f2)) (tk_M (mb_Mod_tick_p_0_3 (by rw [← fp_i0]; exact f) (by rw [← fp_i1000]; exact f2))) (by decide) (by decide)).mono (by omega)
  have f' : ¬ (Op.cmpValue (FP.dcmp y FP.dconst0) .l) < 0 := by rw [← fp_i0]; exact f
  have f2' : (Op.cmpValue (FP.dcmp y 4652007308841189376) .g) ≤ 0 := by rw [← fp_i1000]; exact f2
  obtain ⟨b1, b2⟩ := fp_by f' f2'
  obtain ⟨v, H1⟩ := rl_time (rl_00 (x := 0) H) hk b1 b2
  obtain ⟨e', K', L', I', D', R', a1, a2, a3, a4⟩ := tk_loop (A := A) (mq := mq) (B := B) 6 0 0 _ _ _ _ _ c H1 (by omega) rl_n26_6 (by omega)
  have v' : vf_n64 (FP.dadd (L 11 0) y) := by rw [H.2.2.2.2.2.2.2.2.1]; exact v
  exact (sm_r (tk_C (cb_Hall_tick_p_0_2 f f2 v' a1)) (tk_M (mb_Mod_tick_p_0_2 f' f2' v a2)) a3 rfl (a4.trans (sh_u2_eq _ _ _ _))).mono (by omega)
end SMG
