/-! one step of the law -/
def lw_k (A : Nat → Nat) (mq : Nat) (B : Nat → Nat) (sc oa od : Nat) (k c : Nat) (i : Int32) (cs ss : Nat) (Z : sh_Zt) : Prop := ∀ n' h' A' K' L' I' D' R' yo yd, A' 0 = A 0 → rl_All K' L' I' D' R' k c → lw_W A' mq B oa od K' L' I' D' yo yd h' → sh_V md_Law_law (1050, [(5, .int i), (4, .ref od), (3, .ref oa), (2, .ref mq), (1, .ref (A 0)), (0, .ref sc)], []) (n', h') cs ss Z
section LWS
variable {A : Nat → Nat} {mq : Nat} {B : Nat → Nat} {sc oa od n cs ss k c : Nat} {K I : sh_II} {L D : sh_DD} {R : Nat → List Nat} {yo : Int64} {yd : UInt64} {h : sh_Hp} {Z0 : sh_Zt} {N : Nat} {xs : Nat → Int32} {i e1 e2 e3 e4 : Int32}
theorem ls_rank (H : rl_All K L I D R k c) (hw : lw_W A mq B oa od K L I D yo yd h) (q1 : vp_in (i + 1) N) (v1 : xs (i + 1).toNatClampNeg = e1) (q2 : vp_in (i + 2) N) (v2 : xs (i + 2).toNatClampNeg = e2) (hk : k + 1 ≤ 512) (hc : c + 64 ≤ 2 ^ 20) (hcs : cs + 23 ≤ room_1.cells) (hss : ss + 116 ≤ room_1.slots) (kk : lw_k A mq B sc oa od (k + 1) (c + 64) i (cs + 23) (ss + 116) (lw_G sc N xs Z0)) : sh_V md_Law_law (192, [(5, .int i), (4, .ref od), (3, .ref oa), (2, .ref mq), (1, .ref (A 0)), (0, .ref sc)], []) (n, h) cs ss (lw_G sc N xs Z0) := by
  obtain ⟨r, K', L', v, I', D', R', hC, hM, hR, ha⟩ := sm_rank (A := A) (mq := mq) (B := B) (x := e1) (y := (FP.dmul (FP.i2d e2) 4593671619917905920)) H
  obtain ⟨h1, c1, g1, m1⟩ := hC n h h hw.1 sh_Gr.rf
  have w1 := lw_cls hw c1 g1
  have f0 := hw.1.1 0 _ rfl
  have hR2 := (rl_kmono hR hk).mono (c' := c + 64) (by omega)
  rcases ha with ⟨rfl, e00, hv⟩ | ⟨j, rfl, hj, hj1, e00, hv⟩
  · rcases hv with ⟨-, rfl⟩ | ⟨q, -⟩ | ⟨q, -⟩
    · exact lc_rank_r f0 q1 v1 q2 v2 w1 m1 hM e00 hcs hss (fun n' h' w' => kk n' h' A K' L' I' D' R' _ _ rfl hR2 w')
    · cases q
    · cases q
  · have hv2 : v = none := by
      rcases hv with ⟨-, q⟩ | ⟨q, -⟩ | ⟨q, -⟩
      · exact q
      · cases q
      · cases q
    subst hv2
    have hjj : j = 1 := by
      have := of_decide_eq_true hj
      omega
    rcases hjj with rfl
    · exact lc_rank_t1 (n1 := 0) f0 q1 v1 q2 v2 w1 m1 hM (e00.trans (by decide)) hcs hss (fun n' h' w' => kk n' h' A K' L' I' D' R' _ _ rfl hR2 w')
theorem ls_acquire (H : rl_All K L I D R k c) (hw : lw_W A mq B oa od K L I D yo yd h) (q1 : vp_in (i + 1) N) (v1 : xs (i + 1).toNatClampNeg = e1) (q2 : vp_in (i + 2) N) (v2 : xs (i + 2).toNatClampNeg = e2) (q3 : vp_in (i + 3) N) (v3 : xs (i + 3).toNatClampNeg = e3) (q4 : vp_in (i + 4) N) (v4 : xs (i + 4).toNatClampNeg = e4) (hk : k + 1 ≤ 512) (hc : c + 64 ≤ 2 ^ 20) (hcs : cs + 23 ≤ room_1.cells) (hss : ss + 116 ≤ room_1.slots) (kk : lw_k A mq B sc oa od (k + 1) (c + 64) i (cs + 23) (ss + 116) (lw_G sc N xs Z0)) : sh_V md_Law_law (250, [(5, .int i), (4, .ref od), (3, .ref oa), (2, .ref mq), (1, .ref (A 0)), (0, .ref sc)], []) (n, h) cs ss (lw_G sc N xs Z0) := by
  obtain ⟨r, K', L', v, I', D', R', hC, hM, hR, ha⟩ := sm_acquire (A := A) (mq := mq) (B := B) (x := e1) (o := e2) (m := e3) (y := (FP.dmul (FP.i2d e4) 4593671619917905920)) H (by omega)
  obtain ⟨h1, c1, g1, m1⟩ := hC n h h hw.1 sh_Gr.rf
  have w1 := lw_cls hw c1 g1
  have f0 := hw.1.1 0 _ rfl
  have hR2 := (rl_kmono hR hk).mono (c' := c + 64) (by omega)
  rcases ha with ⟨rfl, e00, hv⟩ | ⟨j, rfl, hj, hj1, e00, hv⟩
  · rcases hv with ⟨q, -⟩ | ⟨q, -⟩ | ⟨-, -, x, rfl⟩
    · cases q
    · cases q
    · exact lc_acquire_r f0 q1 v1 q2 v2 q3 v3 q4 v4 w1 m1 hM e00 hcs hss (fun n' h' w' => kk n' h' A K' L' I' D' R' _ _ rfl hR2 w')
  · have hv2 : ∃ x, v = some (.int x) := by
      rcases hv with ⟨q, -⟩ | ⟨q, -⟩ | ⟨-, -, q⟩
      · cases q
      · cases q
      · exact q
    obtain ⟨y, rfl⟩ := hv2
    have hjj : j = 1 ∨ j = 2 ∨ j = 3 ∨ j = 4 := by
      have := of_decide_eq_true hj
      omega
    rcases hjj with rfl | rfl | rfl | rfl
    · exact lc_acquire_t1 (n1 := 0) f0 q1 v1 q2 v2 q3 v3 q4 v4 w1 m1 hM (e00.trans (by decide)) hcs hss (fun n' h' w' => kk n' h' A K' L' I' D' R' _ _ rfl hR2 w')
    · exact lc_acquire_t2 (n1 := 0) f0 q1 v1 q2 v2 q3 v3 q4 v4 w1 m1 hM (e00.trans (by decide)) hcs hss (fun n' h' w' => kk n' h' A K' L' I' D' R' _ _ rfl hR2 w')
    · exact lc_acquire_t3 (n1 := 0) f0 q1 v1 q2 v2 q3 v3 q4 v4 w1 m1 hM (e00.trans (by decide)) hcs hss (fun n' h' w' => kk n' h' A K' L' I' D' R' _ _ rfl hR2 w')
    · exact lc_acquire_t4 (n1 := 0) f0 q1 v1 q2 v2 q3 v3 q4 v4 w1 m1 hM (e00.trans (by decide)) hcs hss (fun n' h' w' => kk n' h' A K' L' I' D' R' _ _ rfl hR2 w')
theorem ls_release (H : rl_All K L I D R k c) (hw : lw_W A mq B oa od K L I D yo yd h) (q1 : vp_in (i + 1) N) (v1 : xs (i + 1).toNatClampNeg = e1) (q2 : vp_in (i + 2) N) (v2 : xs (i + 2).toNatClampNeg = e2) (q3 : vp_in (i + 3) N) (v3 : xs (i + 3).toNatClampNeg = e3) (hk : k + 1 ≤ 512) (hc : c + 64 ≤ 2 ^ 20) (hcs : cs + 23 ≤ room_1.cells) (hss : ss + 116 ≤ room_1.slots) (kk : lw_k A mq B sc oa od (k + 1) (c + 64) i (cs + 23) (ss + 116) (lw_G sc N xs Z0)) : sh_V md_Law_law (352, [(5, .int i), (4, .ref od), (3, .ref oa), (2, .ref mq), (1, .ref (A 0)), (0, .ref sc)], []) (n, h) cs ss (lw_G sc N xs Z0) := by
  obtain ⟨r, K', L', v, I', D', R', hC, hM, hR, ha⟩ := sm_release (A := A) (mq := mq) (B := B) (x := e1) (o := e2) (m := e3) H (by omega)
  obtain ⟨h1, c1, g1, m1⟩ := hC n h h hw.1 sh_Gr.rf
  have w1 := lw_cls hw c1 g1
  have f0 := hw.1.1 0 _ rfl
  have hR2 := (rl_kmono hR hk).mono (c' := c + 64) (by omega)
  rcases ha with ⟨rfl, e00, hv⟩ | ⟨j, rfl, hj, hj1, e00, hv⟩
  · rcases hv with ⟨q, -⟩ | ⟨q, -⟩ | ⟨-, -, x, rfl⟩
    · cases q
    · cases q
    · exact lc_release_r f0 q1 v1 q2 v2 q3 v3 w1 m1 hM e00 hcs hss (fun n' h' w' => kk n' h' A K' L' I' D' R' _ _ rfl hR2 w')
  · have hv2 : ∃ x, v = some (.int x) := by
      rcases hv with ⟨q, -⟩ | ⟨q, -⟩ | ⟨-, -, q⟩
      · cases q
      · cases q
      · exact q
    obtain ⟨y, rfl⟩ := hv2
    have hjj : j = 1 ∨ j = 2 ∨ j = 3 ∨ j = 4 := by
      have := of_decide_eq_true hj
      omega
    rcases hjj with rfl | rfl | rfl | rfl
    · exact lc_release_t1 (n1 := 0) f0 q1 v1 q2 v2 q3 v3 w1 m1 hM (e00.trans (by decide)) hcs hss (fun n' h' w' => kk n' h' A K' L' I' D' R' _ _ rfl hR2 w')
    · exact lc_release_t2 (n1 := 0) f0 q1 v1 q2 v2 q3 v3 w1 m1 hM (e00.trans (by decide)) hcs hss (fun n' h' w' => kk n' h' A K' L' I' D' R' _ _ rfl hR2 w')
    · exact lc_release_t3 (n1 := 0) f0 q1 v1 q2 v2 q3 v3 w1 m1 hM (e00.trans (by decide)) hcs hss (fun n' h' w' => kk n' h' A K' L' I' D' R' _ _ rfl hR2 w')
    · exact lc_release_t4 (n1 := 0) f0 q1 v1 q2 v2 q3 v3 w1 m1 hM (e00.trans (by decide)) hcs hss (fun n' h' w' => kk n' h' A K' L' I' D' R' _ _ rfl hR2 w')
theorem ls_await (H : rl_All K L I D R k c) (hw : lw_W A mq B oa od K L I D yo yd h) (q1 : vp_in (i + 1) N) (v1 : xs (i + 1).toNatClampNeg = e1) (q2 : vp_in (i + 2) N) (v2 : xs (i + 2).toNatClampNeg = e2) (q3 : vp_in (i + 3) N) (v3 : xs (i + 3).toNatClampNeg = e3) (hk : k + 1 ≤ 512) (hc : c + 64 ≤ 2 ^ 20) (hcs : cs + 23 ≤ room_1.cells) (hss : ss + 116 ≤ room_1.slots) (kk : lw_k A mq B sc oa od (k + 1) (c + 64) i (cs + 23) (ss + 116) (lw_G sc N xs Z0)) : sh_V md_Law_law (432, [(5, .int i), (4, .ref od), (3, .ref oa), (2, .ref mq), (1, .ref (A 0)), (0, .ref sc)], []) (n, h) cs ss (lw_G sc N xs Z0) := by
  obtain ⟨r, K', L', v, I', D', R', hC, hM, hR, ha⟩ := sm_await (A := A) (mq := mq) (B := B) (x := e1) (o := e2) (y := (FP.dmul (FP.i2d e3) 4593671619917905920)) H (by omega)
  obtain ⟨h1, c1, g1, m1⟩ := hC n h h hw.1 sh_Gr.rf
  have w1 := lw_cls hw c1 g1
  have f0 := hw.1.1 0 _ rfl
  have hR2 := (rl_kmono hR hk).mono (c' := c + 64) (by omega)
  rcases ha with ⟨rfl, e00, hv⟩ | ⟨j, rfl, hj, hj1, e00, hv⟩
  · rcases hv with ⟨q, -⟩ | ⟨q, -⟩ | ⟨-, -, x, rfl⟩
    · cases q
    · cases q
    · exact lc_await_r f0 q1 v1 q2 v2 q3 v3 w1 m1 hM e00 hcs hss (fun n' h' w' => kk n' h' A K' L' I' D' R' _ _ rfl hR2 w')
  · have hv2 : ∃ x, v = some (.int x) := by
      rcases hv with ⟨q, -⟩ | ⟨q, -⟩ | ⟨-, -, q⟩
      · cases q
      · cases q
      · exact q
    obtain ⟨y, rfl⟩ := hv2
    have hjj : j = 1 ∨ j = 2 ∨ j = 3 ∨ j = 4 := by
      have := of_decide_eq_true hj
      omega
    rcases hjj with rfl | rfl | rfl | rfl
    · exact lc_await_t1 (n1 := 0) f0 q1 v1 q2 v2 q3 v3 w1 m1 hM (e00.trans (by decide)) hcs hss (fun n' h' w' => kk n' h' A K' L' I' D' R' _ _ rfl hR2 w')
    · exact lc_await_t2 (n1 := 0) f0 q1 v1 q2 v2 q3 v3 w1 m1 hM (e00.trans (by decide)) hcs hss (fun n' h' w' => kk n' h' A K' L' I' D' R' _ _ rfl hR2 w')
    · exact lc_await_t3 (n1 := 0) f0 q1 v1 q2 v2 q3 v3 w1 m1 hM (e00.trans (by decide)) hcs hss (fun n' h' w' => kk n' h' A K' L' I' D' R' _ _ rfl hR2 w')
    · exact lc_await_t4 (n1 := 0) f0 q1 v1 q2 v2 q3 v3 w1 m1 hM (e00.trans (by decide)) hcs hss (fun n' h' w' => kk n' h' A K' L' I' D' R' _ _ rfl hR2 w')
theorem ls_signal0 (H : rl_All K L I D R k c) (hw : lw_W A mq B oa od K L I D yo yd h) (q1 : vp_in (i + 1) N) (v1 : xs (i + 1).toNatClampNeg = e1) (q2 : vp_in (i + 2) N) (v2 : xs (i + 2).toNatClampNeg = e2) (q3 : vp_in (i + 3) N) (v3 : xs (i + 3).toNatClampNeg = e3) (h3 : e3 = 0) (hk : k + 1 ≤ 512) (hc : c + 64 ≤ 2 ^ 20) (hcs : cs + 23 ≤ room_1.cells) (hss : ss + 116 ≤ room_1.slots) (kk : lw_k A mq B sc oa od (k + 1) (c + 64) i (cs + 23) (ss + 116) (lw_G sc N xs Z0)) : sh_V md_Law_law (522, [(5, .int i), (4, .ref od), (3, .ref oa), (2, .ref mq), (1, .ref (A 0)), (0, .ref sc)], []) (n, h) cs ss (lw_G sc N xs Z0) := by
  obtain ⟨r, K', L', v, I', D', R', hC, hM, hR, ha⟩ := sm_signal (A := A) (mq := mq) (B := B) (x := e1) (o := e2) (a := 0) H (by omega)
  obtain ⟨h1, c1, g1, m1⟩ := hC n h h hw.1 sh_Gr.rf
  have w1 := lw_cls hw c1 g1
  have f0 := hw.1.1 0 _ rfl
  have hR2 := (rl_kmono hR hk).mono (c' := c + 64) (by omega)
  rcases ha with ⟨rfl, e00, hv⟩ | ⟨j, rfl, hj, hj1, e00, hv⟩
  · rcases hv with ⟨q, -⟩ | ⟨q, -⟩ | ⟨-, -, x, rfl⟩
    · cases q
    · cases q
    · exact lc_signal_r0 f0 q1 v1 q2 v2 q3 v3 h3 w1 m1 hM e00 hcs hss (fun n' h' w' => kk n' h' A K' L' I' D' R' _ _ rfl hR2 w')
  · have hv2 : ∃ x, v = some (.int x) := by
      rcases hv with ⟨q, -⟩ | ⟨q, -⟩ | ⟨-, -, q⟩
      · cases q
      · cases q
      · exact q
    obtain ⟨y, rfl⟩ := hv2
    have hjj : j = 1 ∨ j = 2 ∨ j = 3 ∨ j = 4 := by
      have := of_decide_eq_true hj
      omega
    rcases hjj with rfl | rfl | rfl | rfl
    · exact lc_signal_t01 (n1 := 0) f0 q1 v1 q2 v2 q3 v3 h3 w1 m1 hM (e00.trans (by decide)) hcs hss (fun n' h' w' => kk n' h' A K' L' I' D' R' _ _ rfl hR2 w')
    · exact lc_signal_t02 (n1 := 0) f0 q1 v1 q2 v2 q3 v3 h3 w1 m1 hM (e00.trans (by decide)) hcs hss (fun n' h' w' => kk n' h' A K' L' I' D' R' _ _ rfl hR2 w')
    · exact lc_signal_t03 (n1 := 0) f0 q1 v1 q2 v2 q3 v3 h3 w1 m1 hM (e00.trans (by decide)) hcs hss (fun n' h' w' => kk n' h' A K' L' I' D' R' _ _ rfl hR2 w')
    · exact lc_signal_t04 (n1 := 0) f0 q1 v1 q2 v2 q3 v3 h3 w1 m1 hM (e00.trans (by decide)) hcs hss (fun n' h' w' => kk n' h' A K' L' I' D' R' _ _ rfl hR2 w')
theorem ls_signal1 (H : rl_All K L I D R k c) (hw : lw_W A mq B oa od K L I D yo yd h) (q1 : vp_in (i + 1) N) (v1 : xs (i + 1).toNatClampNeg = e1) (q2 : vp_in (i + 2) N) (v2 : xs (i + 2).toNatClampNeg = e2) (q3 : vp_in (i + 3) N) (v3 : xs (i + 3).toNatClampNeg = e3) (h3 : ¬ e3 = 0) (hk : k + 1 ≤ 512) (hc : c + 64 ≤ 2 ^ 20) (hcs : cs + 23 ≤ room_1.cells) (hss : ss + 116 ≤ room_1.slots) (kk : lw_k A mq B sc oa od (k + 1) (c + 64) i (cs + 23) (ss + 116) (lw_G sc N xs Z0)) : sh_V md_Law_law (522, [(5, .int i), (4, .ref od), (3, .ref oa), (2, .ref mq), (1, .ref (A 0)), (0, .ref sc)], []) (n, h) cs ss (lw_G sc N xs Z0) := by
  obtain ⟨r, K', L', v, I', D', R', hC, hM, hR, ha⟩ := sm_signal (A := A) (mq := mq) (B := B) (x := e1) (o := e2) (a := 1) H (by omega)
  obtain ⟨h1, c1, g1, m1⟩ := hC n h h hw.1 sh_Gr.rf
  have w1 := lw_cls hw c1 g1
  have f0 := hw.1.1 0 _ rfl
  have hR2 := (rl_kmono hR hk).mono (c' := c + 64) (by omega)
  rcases ha with ⟨rfl, e00, hv⟩ | ⟨j, rfl, hj, hj1, e00, hv⟩
  · rcases hv with ⟨q, -⟩ | ⟨q, -⟩ | ⟨-, -, x, rfl⟩
    · cases q
    · cases q
    · exact lc_signal_r1 f0 q1 v1 q2 v2 q3 v3 h3 w1 m1 hM e00 hcs hss (fun n' h' w' => kk n' h' A K' L' I' D' R' _ _ rfl hR2 w')
  · have hv2 : ∃ x, v = some (.int x) := by
      rcases hv with ⟨q, -⟩ | ⟨q, -⟩ | ⟨-, -, q⟩
      · cases q
      · cases q
      · exact q
    obtain ⟨y, rfl⟩ := hv2
    have hjj : j = 1 ∨ j = 2 ∨ j = 3 ∨ j = 4 := by
      have := of_decide_eq_true hj
      omega
    rcases hjj with rfl | rfl | rfl | rfl
    · exact lc_signal_t11 (n1 := 0) f0 q1 v1 q2 v2 q3 v3 h3 w1 m1 hM (e00.trans (by decide)) hcs hss (fun n' h' w' => kk n' h' A K' L' I' D' R' _ _ rfl hR2 w')
    · exact lc_signal_t12 (n1 := 0) f0 q1 v1 q2 v2 q3 v3 h3 w1 m1 hM (e00.trans (by decide)) hcs hss (fun n' h' w' => kk n' h' A K' L' I' D' R' _ _ rfl hR2 w')
    · exact lc_signal_t13 (n1 := 0) f0 q1 v1 q2 v2 q3 v3 h3 w1 m1 hM (e00.trans (by decide)) hcs hss (fun n' h' w' => kk n' h' A K' L' I' D' R' _ _ rfl hR2 w')
    · exact lc_signal_t14 (n1 := 0) f0 q1 v1 q2 v2 q3 v3 h3 w1 m1 hM (e00.trans (by decide)) hcs hss (fun n' h' w' => kk n' h' A K' L' I' D' R' _ _ rfl hR2 w')
theorem ls_interrupt (H : rl_All K L I D R k c) (hw : lw_W A mq B oa od K L I D yo yd h) (q1 : vp_in (i + 1) N) (v1 : xs (i + 1).toNatClampNeg = e1) (hk : k + 1 ≤ 512) (hc : c + 64 ≤ 2 ^ 20) (hcs : cs + 23 ≤ room_1.cells) (hss : ss + 116 ≤ room_1.slots) (kk : lw_k A mq B sc oa od (k + 1) (c + 64) i (cs + 23) (ss + 116) (lw_G sc N xs Z0)) : sh_V md_Law_law (618, [(5, .int i), (4, .ref od), (3, .ref oa), (2, .ref mq), (1, .ref (A 0)), (0, .ref sc)], []) (n, h) cs ss (lw_G sc N xs Z0) := by
  obtain ⟨r, K', L', v, I', D', R', hC, hM, hR, ha⟩ := sm_interrupt (A := A) (mq := mq) (B := B) (x := e1) H (by omega)
  obtain ⟨h1, c1, g1, m1⟩ := hC n h h hw.1 sh_Gr.rf
  have w1 := lw_cls hw c1 g1
  have f0 := hw.1.1 0 _ rfl
  have hR2 := (rl_kmono hR hk).mono (c' := c + 64) (by omega)
  rcases ha with ⟨rfl, e00, hv⟩ | ⟨j, rfl, hj, hj1, e00, hv⟩
  · rcases hv with ⟨q, -⟩ | ⟨q, -⟩ | ⟨-, -, x, rfl⟩
    · cases q
    · cases q
    · exact lc_interrupt_r f0 q1 v1 w1 m1 hM e00 hcs hss (fun n' h' w' => kk n' h' A K' L' I' D' R' _ _ rfl hR2 w')
  · have hv2 : ∃ x, v = some (.int x) := by
      rcases hv with ⟨q, -⟩ | ⟨q, -⟩ | ⟨-, -, q⟩
      · cases q
      · cases q
      · exact q
    obtain ⟨y, rfl⟩ := hv2
    have hjj : j = 1 := by
      have := of_decide_eq_true hj
      omega
    rcases hjj with rfl
    · exact lc_interrupt_t1 (n1 := 0) f0 q1 v1 w1 m1 hM (e00.trans (by decide)) hcs hss (fun n' h' w' => kk n' h' A K' L' I' D' R' _ _ rfl hR2 w')
theorem ls_tick (H : rl_All K L I D R k c) (hw : lw_W A mq B oa od K L I D yo yd h) (q1 : vp_in (i + 1) N) (v1 : xs (i + 1).toNatClampNeg = e1) (hk : k + 1 ≤ 512) (hc : c + 64 ≤ 2 ^ 20) (hcs : cs + 23 ≤ room_1.cells) (hss : ss + 116 ≤ room_1.slots) (kk : lw_k A mq B sc oa od (k + 1) (c + 64) i (cs + 23) (ss + 116) (lw_G sc N xs Z0)) : sh_V md_Law_law (674, [(5, .int i), (4, .ref od), (3, .ref oa), (2, .ref mq), (1, .ref (A 0)), (0, .ref sc)], []) (n, h) cs ss (lw_G sc N xs Z0) := by
  obtain ⟨r, K', L', v, I', D', R', hC, hM, hR, ha⟩ := sm_tick (A := A) (mq := mq) (B := B) (y := (FP.dmul (FP.i2d e1) 4593671619917905920)) H hk (by omega)
  obtain ⟨h1, c1, g1, m1⟩ := hC n h h hw.1 sh_Gr.rf
  have w1 := lw_cls hw c1 g1
  have f0 := hw.1.1 0 _ rfl
  have hR2 := hR.mono (c' := c + 64) (by omega)
  rcases ha with ⟨rfl, e00, hv⟩ | ⟨j, rfl, hj, hj1, e00, hv⟩
  · rcases hv with ⟨q, -⟩ | ⟨q, -⟩ | ⟨-, -, x, rfl⟩
    · cases q
    · cases q
    · exact lc_tick_r f0 q1 v1 w1 m1 hM e00 hcs hss (fun n' h' w' => kk n' h' A K' L' I' D' R' _ _ rfl hR2 w')
  · have hv2 : ∃ x, v = some (.int x) := by
      rcases hv with ⟨q, -⟩ | ⟨q, -⟩ | ⟨-, -, q⟩
      · cases q
      · cases q
      · exact q
    obtain ⟨y, rfl⟩ := hv2
    have hjj : j = 1 := by
      have := of_decide_eq_true hj
      omega
    rcases hjj with rfl
    · exact lc_tick_t1 (n1 := 0) f0 q1 v1 w1 m1 hM (e00.trans (by decide)) hcs hss (fun n' h' w' => kk n' h' A K' L' I' D' R' _ _ rfl hR2 w')
theorem ls_policy (H : rl_All K L I D R k c) (hw : lw_W A mq B oa od K L I D yo yd h) (q1 : vp_in (i + 1) N) (v1 : xs (i + 1).toNatClampNeg = e1) (hk : k + 1 ≤ 512) (hc : c + 64 ≤ 2 ^ 20) (hcs : cs + 23 ≤ room_1.cells) (hss : ss + 116 ≤ room_1.slots) (kk : lw_k A mq B sc oa od (k + 1) (c + 64) i (cs + 23) (ss + 116) (lw_G sc N xs Z0)) : sh_V md_Law_law (740, [(5, .int i), (4, .ref od), (3, .ref oa), (2, .ref mq), (1, .ref (A 0)), (0, .ref sc)], []) (n, h) cs ss (lw_G sc N xs Z0) := by
  obtain ⟨r, K', L', v, I', D', R', hC, hM, hR, ha⟩ := sm_policy (A := A) (mq := mq) (B := B) (x := e1) H
  obtain ⟨h1, c1, g1, m1⟩ := hC n h h hw.1 sh_Gr.rf
  have w1 := lw_cls hw c1 g1
  have f0 := hw.1.1 0 _ rfl
  have hR2 := (rl_kmono hR hk).mono (c' := c + 64) (by omega)
  rcases ha with ⟨rfl, e00, hv⟩ | ⟨j, rfl, hj, hj1, e00, hv⟩
  · rcases hv with ⟨q, -⟩ | ⟨q, -⟩ | ⟨-, -, x, rfl⟩
    · cases q
    · cases q
    · exact lc_policy_r f0 q1 v1 w1 m1 hM e00 hcs hss (fun n' h' w' => kk n' h' A K' L' I' D' R' _ _ rfl hR2 w')
  · have hv2 : ∃ x, v = some (.int x) := by
      rcases hv with ⟨q, -⟩ | ⟨q, -⟩ | ⟨-, -, q⟩
      · cases q
      · cases q
      · exact q
    obtain ⟨y, rfl⟩ := hv2
    have hjj : j = 1 := by
      have := of_decide_eq_true hj
      omega
    rcases hjj with rfl
    · exact lc_policy_t1 (n1 := 0) f0 q1 v1 w1 m1 hM (e00.trans (by decide)) hcs hss (fun n' h' w' => kk n' h' A K' L' I' D' R' _ _ rfl hR2 w')
theorem ls_thread (H : rl_All K L I D R k c) (hw : lw_W A mq B oa od K L I D yo yd h) (q1 : vp_in (i + 1) N) (v1 : xs (i + 1).toNatClampNeg = e1) (q2 : vp_in (i + 2) N) (v2 : xs (i + 2).toNatClampNeg = e2) (hk : k + 1 ≤ 512) (hc : c + 64 ≤ 2 ^ 20) (hcs : cs + 23 ≤ room_1.cells) (hss : ss + 116 ≤ room_1.slots) (kk : lw_k A mq B sc oa od (k + 1) (c + 64) i (cs + 23) (ss + 116) (lw_G sc N xs Z0)) : sh_V md_Law_law (796, [(5, .int i), (4, .ref od), (3, .ref oa), (2, .ref mq), (1, .ref (A 0)), (0, .ref sc)], []) (n, h) cs ss (lw_G sc N xs Z0) := by
  obtain ⟨r, K', L', v, I', D', R', hC, hM, hR, ha⟩ := sm_thread (A := A) (mq := mq) (B := B) (x := e1) (o := e2) H
  obtain ⟨h1, c1, g1, m1⟩ := hC n h h hw.1 sh_Gr.rf
  have w1 := lw_cls hw c1 g1
  have f0 := hw.1.1 0 _ rfl
  have hR2 := (rl_kmono hR hk).mono (c' := c + 64) (by omega)
  rcases ha with ⟨rfl, e00, hv⟩ | ⟨j, rfl, hj, hj1, e00, hv⟩
  · rcases hv with ⟨q, -⟩ | ⟨q, -⟩ | ⟨-, -, x, rfl⟩
    · cases q
    · cases q
    · exact lc_thread_r f0 q1 v1 q2 v2 w1 m1 hM e00 hcs hss (fun n' h' w' => kk n' h' A K' L' I' D' R' _ _ rfl hR2 w')
  · have hv2 : ∃ x, v = some (.int x) := by
      rcases hv with ⟨q, -⟩ | ⟨q, -⟩ | ⟨-, -, q⟩
      · cases q
      · cases q
      · exact q
    obtain ⟨y, rfl⟩ := hv2
    have hjj : j = 1 := by
      have := of_decide_eq_true hj
      omega
    rcases hjj with rfl
    · exact lc_thread_t1 (n1 := 0) f0 q1 v1 q2 v2 w1 m1 hM (e00.trans (by decide)) hcs hss (fun n' h' w' => kk n' h' A K' L' I' D' R' _ _ rfl hR2 w')
theorem ls_sync (H : rl_All K L I D R k c) (hw : lw_W A mq B oa od K L I D yo yd h) (q1 : vp_in (i + 1) N) (v1 : xs (i + 1).toNatClampNeg = e1) (q2 : vp_in (i + 2) N) (v2 : xs (i + 2).toNatClampNeg = e2) (hk : k + 1 ≤ 512) (hc : c + 64 ≤ 2 ^ 20) (hcs : cs + 23 ≤ room_1.cells) (hss : ss + 116 ≤ room_1.slots) (kk : lw_k A mq B sc oa od (k + 1) (c + 64) i (cs + 23) (ss + 116) (lw_G sc N xs Z0)) : sh_V md_Law_law (864, [(5, .int i), (4, .ref od), (3, .ref oa), (2, .ref mq), (1, .ref (A 0)), (0, .ref sc)], []) (n, h) cs ss (lw_G sc N xs Z0) := by
  obtain ⟨r, K', L', v, I', D', R', hC, hM, hR, ha⟩ := sm_sync (A := A) (mq := mq) (B := B) (x := e1) (o := e2) H
  obtain ⟨h1, c1, g1, m1⟩ := hC n h h hw.1 sh_Gr.rf
  have w1 := lw_cls hw c1 g1
  have f0 := hw.1.1 0 _ rfl
  have hR2 := (rl_kmono hR hk).mono (c' := c + 64) (by omega)
  rcases ha with ⟨rfl, e00, hv⟩ | ⟨j, rfl, hj, hj1, e00, hv⟩
  · rcases hv with ⟨q, -⟩ | ⟨q, -⟩ | ⟨-, -, x, rfl⟩
    · cases q
    · cases q
    · exact lc_sync_r f0 q1 v1 q2 v2 w1 m1 hM e00 hcs hss (fun n' h' w' => kk n' h' A K' L' I' D' R' _ _ rfl hR2 w')
  · have hv2 : ∃ x, v = some (.int x) := by
      rcases hv with ⟨q, -⟩ | ⟨q, -⟩ | ⟨-, -, q⟩
      · cases q
      · cases q
      · exact q
    obtain ⟨y, rfl⟩ := hv2
    have hjj : j = 1 ∨ j = 2 := by
      have := of_decide_eq_true hj
      omega
    rcases hjj with rfl | rfl
    · exact lc_sync_t1 (n1 := 0) f0 q1 v1 q2 v2 w1 m1 hM (e00.trans (by decide)) hcs hss (fun n' h' w' => kk n' h' A K' L' I' D' R' _ _ rfl hR2 w')
    · exact lc_sync_t2 (n1 := 0) f0 q1 v1 q2 v2 w1 m1 hM (e00.trans (by decide)) hcs hss (fun n' h' w' => kk n' h' A K' L' I' D' R' _ _ rfl hR2 w')
theorem ls_waited (H : rl_All K L I D R k c) (hw : lw_W A mq B oa od K L I D yo yd h) (q1 : vp_in (i + 1) N) (v1 : xs (i + 1).toNatClampNeg = e1) (hk : k + 1 ≤ 512) (hc : c + 64 ≤ 2 ^ 20) (hcs : cs + 23 ≤ room_1.cells) (hss : ss + 116 ≤ room_1.slots) (kk : lw_k A mq B sc oa od (k + 1) (c + 64) i (cs + 23) (ss + 116) (lw_G sc N xs Z0)) : sh_V md_Law_law (932, [(5, .int i), (4, .ref od), (3, .ref oa), (2, .ref mq), (1, .ref (A 0)), (0, .ref sc)], []) (n, h) cs ss (lw_G sc N xs Z0) := by
  obtain ⟨r, K', L', v, I', D', R', hC, hM, hR, ha⟩ := sm_waited (A := A) (mq := mq) (B := B) (x := e1) H (by omega)
  obtain ⟨h1, c1, g1, m1⟩ := hC n h h hw.1 sh_Gr.rf
  have w1 := lw_cls hw c1 g1
  have f0 := hw.1.1 0 _ rfl
  have hR2 := (rl_kmono hR hk).mono (c' := c + 64) (by omega)
  rcases ha with ⟨rfl, e00, hv⟩ | ⟨j, rfl, hj, hj1, e00, hv⟩
  · rcases hv with ⟨q, -⟩ | ⟨-, y, rfl⟩ | ⟨-, q, -⟩
    · cases q
    · by_cases hz : Op.cmpValue (FP.dcmp y y) .l = 0
      · exact lc_waited_r0 f0 q1 v1 hz w1 m1 hM e00 hcs hss (fun n' h' w' => kk n' h' A K' L' I' D' R' _ _ rfl hR2 w')
      · exact lc_waited_r1 f0 q1 v1 hz w1 m1 hM e00 hcs hss (fun n' h' w' => kk n' h' A K' L' I' D' R' _ _ rfl hR2 w')
    · cases q
  · have hv2 : ∃ y, v = some (.double y) := by
      rcases hv with ⟨q, -⟩ | ⟨-, q⟩ | ⟨-, q, -⟩
      · cases q
      · exact q
      · cases q
    obtain ⟨y, rfl⟩ := hv2
    have hjj : j = 1 ∨ j = 2 ∨ j = 5 := by
      have := of_decide_eq_true hj
      omega
    rcases hjj with rfl | rfl | rfl
    · exact lc_waited_t1 (n1 := 0) f0 q1 v1 w1 m1 hM (e00.trans (by decide)) hcs hss (fun n' h' w' => kk n' h' A K' L' I' D' R' _ _ rfl hR2 w')
    · exact lc_waited_t2 (n1 := 0) f0 q1 v1 w1 m1 hM (e00.trans (by decide)) hcs hss (fun n' h' w' => kk n' h' A K' L' I' D' R' _ _ rfl hR2 w')
    · exact lc_waited_t5 (n1 := 0) f0 q1 v1 w1 m1 hM (e00.trans (by decide)) hcs hss (fun n' h' w' => kk n' h' A K' L' I' D' R' _ _ rfl hR2 w')
theorem ls_make (H : rl_All K L I D R k c) (hw : lw_W A mq B oa od K L I D yo yd h) (q1 : vp_in (i + 1) N) (v1 : xs (i + 1).toNatClampNeg = e1) (q2 : vp_in (i + 2) N) (v2 : xs (i + 2).toNatClampNeg = e2) (q3 : vp_in (i + 3) N) (v3 : xs (i + 3).toNatClampNeg = e3) (hk : k + 1 ≤ 512) (hcs : cs + 23 ≤ room_1.cells) (hss : ss + 116 ≤ room_1.slots) (kk : lw_k A mq B sc oa od (k + 1) (c + 64) i (cs + 23) (ss + 116) (lw_G sc N xs Z0)) : sh_V md_Law_law (112, [(5, .int i), (4, .ref od), (3, .ref oa), (2, .ref mq), (1, .ref (A 0)), (0, .ref sc)], []) (n, h) cs ss (lw_G sc N xs Z0) := by
  refine sh_dom (fun dom => ?_)
  have f0 := hw.1.1 0 _ rfl
  rcases sm_make (A := A) (mq := mq) (B := B) (x := e1) (o := e2) (z := e3) H hw.1 dom with ⟨j, I', hj, hC, hM, e00, hR⟩ | ⟨A', K', n', h', I', v, g1, g2, g3, g4, g5, g6, g7, e00, hR⟩
  · obtain ⟨h1, c1, g1, m1⟩ := hC n h h hw.1 sh_Gr.rf
    have w1 := lw_cls hw c1 g1
    have hR2 := (rl_kmono hR hk).mono (c' := c + 64) (by omega)
    rcases hj with rfl | rfl | rfl
    · exact lc_make_t1 (n1 := 0) f0 q1 v1 q2 v2 q3 v3 w1 m1 hM (e00.trans (by decide)) hcs hss (fun n' h' w' => kk n' h' A K L I' D R _ _ rfl hR2 w')
    · exact lc_make_t2 (n1 := 0) f0 q1 v1 q2 v2 q3 v3 w1 m1 hM (e00.trans (by decide)) hcs hss (fun n' h' w' => kk n' h' A K L I' D R _ _ rfl hR2 w')
    · exact lc_make_t3 (n1 := 0) f0 q1 v1 q2 v2 q3 v3 w1 m1 hM (e00.trans (by decide)) hcs hss (fun n' h' w' => kk n' h' A K L I' D R _ _ rfl hR2 w')
  · have w1 := lw_make hw dom g2 g3 g5
    have hR2 := (rl_kmono hR hk).mono (c' := c + 64) (by omega)
    exact lc_make_r f0 q1 v1 q2 v2 q3 v3 w1 g6 g7 e00 hcs hss (fun n' h' w' => kk n' h' A' K' L I' D R _ _ g4 hR2 w')
end LWS
