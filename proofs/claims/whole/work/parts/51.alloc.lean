/-! allocation: constructors over the bare heap -/
/-- the walk ends with v, and P tells of the world then -/
def sx_W (d : sh_Md) (f : sh_AF) (n : Nat) (h : sh_Hp) (cs ss : Nat) (v : Option Value) (P : Nat → sh_Hp → Prop) : Prop := ∃ n' h', P n' h' ∧ sh_V d f (n, h) cs ss (sh_E d (.inl (v, (n', h'))))
def sx_M (d : sh_Md) (As : List Value) (n : Nat) (h : sh_Hp) (v : Option Value) (P : Nat → sh_Hp → Prop) : Prop := sx_W d (0, lv_args 0 As, []) n h 0 0 v P
section SXA
variable {d : sh_Md} {f f' : sh_AF} {pc : Nat} {lv : List (Nat × Value)} {st : List Value} {n : Nat} {h : sh_Hp} {cs ss cs' ss' : Nat} {v : Option Value} {P : Nat → sh_Hp → Prop} {o : sh_Ob} {q : Nat}
theorem sx_p (H : ∀ Z, sh_V d f' (n, h) cs ss Z → sh_V d f (n, h) cs ss Z) (k : sx_W d f' n h cs ss v P) : sx_W d f n h cs ss v P := by
  obtain ⟨n', h', a, b⟩ := k
  exact ⟨n', h', a, H _ b⟩
theorem sx_o (H : ∀ Z, sh_V d f' (n, sh_up h q o) cs ss Z → sh_V d f (n, h) cs ss Z) (k : ∀ h1 : sh_Hp, h1 q = some o → (∀ j, j ≠ q → h1 j = h j) → sx_W d f' n h1 cs ss v P) : sx_W d f n h cs ss v P := by
  obtain ⟨n', h', a, b⟩ := k (sh_up h q o) (sh_up_eq _ _ _) (fun j hj => sh_up_ne hj)
  exact ⟨n', h', a, H _ b⟩
theorem sx_n (H : ∀ Z, sh_V d f' (n + 1, sh_up h n o) cs' ss' Z → sh_V d f (n, h) cs ss Z) (k : ∀ h1 : sh_Hp, h1 n = some o → (∀ j, j ≠ n → h1 j = h j) → sx_W d f' (n + 1) h1 cs' ss' v P) : sx_W d f n h cs ss v P := by
  obtain ⟨n', h', a, b⟩ := k (sh_up h n o) (sh_up_eq _ _ _) (fun j hj => sh_up_ne hj)
  exact ⟨n', h', a, H _ b⟩
theorem sx_c {dy : sh_Md} {stk As : List Value} {v1 : Option Value} {P1 : Nat → sh_Hp → Prop} (hc : sh_Call d dy pc stk st (n, h) As) (hM : sx_M dy As n h v1 P1) (hr : sh_Rm d dy st cs ss) (k : ∀ n1 h1, P1 n1 h1 → sx_W d (pc + 3, lv, v1.toList ++ st) n1 h1 (cs + dy.2.2.2.2.1.cells) (ss + dy.2.2.2.2.1.slots) v P) : sx_W d (pc, lv, stk) n h cs ss v P := by
  obtain ⟨n1, h1, a1, b1⟩ := hM
  obtain ⟨n', h', a, b⟩ := k n1 h1 a1
  exact ⟨n', h', a, sh_callR hc b1 hr b⟩
theorem sx_e (H : sh_V d f (n, h) cs ss (sh_E d (.inl (v, (n, h))))) (hP : P n h) : sx_W d f n h cs ss v P := ⟨n, h, hP, H⟩
end SXA
def nt_Hall : Nat → FieldType := fun k => match k with
  | 0 => (.array (.object "SyncHall$Worker"))
  | 1 => (.array (.object "SyncHall$Sync"))
  | 2 => (.object "SyncHall$LockOrder")
  | 3 => .int
  | _ => .double
theorem nt_Hall_p : ∀ k, k < 5 → parseFieldDescriptor (fx_Hall k).2.2.1 = some (nt_Hall k) := by
  intro k hk
  rcases k with _ | _ | _ | _ | _ | k
  · exact pd_ALWorker
  · exact pd_ALSync
  · exact pd_LLockOrder
  · exact pd_I
  · exact pd_D
  · omega
theorem nt_Hall_d : ∀ j, j < 5 → defaultValue (nt_Hall j) = vp_V [.null, .null, .null, .int 0, .double FP.dconst0] j := by
  intro k hk
  rcases k with _ | _ | _ | _ | _ | k
  · rfl
  · rfl
  · rfl
  · rfl
  · rfl
  · omega
def nt_Worker : Nat → FieldType := fun k => match k with
  | 0 => .int
  | 1 => .double
  | 2 => .boolean
  | 3 => .int
  | 4 => (.object "SyncHall$Sync")
  | 5 => .int
  | 6 => .boolean
  | 7 => .double
  | 8 => .double
  | 9 => .int
  | 10 => .int
  | _ => .boolean
theorem nt_Worker_p : ∀ k, k < 12 → parseFieldDescriptor (fx_Worker k).2.2.1 = some (nt_Worker k) := by
  intro k hk
  rcases k with _ | _ | _ | _ | _ | _ | _ | _ | _ | _ | _ | _ | k
  · exact pd_I
  · exact pd_D
  · exact pd_Z
  · exact pd_I
  · exact pd_LSync
  · exact pd_I
  · exact pd_Z
  · exact pd_D
  · exact pd_D
  · exact pd_I
  · exact pd_I
  · exact pd_Z
  · omega
theorem nt_Worker_d : ∀ j, j < 12 → defaultValue (nt_Worker j) = vp_V [.int 0, .double FP.dconst0, .int 0, .int 0, .null, .int 0, .int 0, .double FP.dconst0, .double FP.dconst0, .int 0, .int 0, .int 0] j := by
  intro k hk
  rcases k with _ | _ | _ | _ | _ | _ | _ | _ | _ | _ | _ | _ | k
  · rfl
  · rfl
  · rfl
  · rfl
  · rfl
  · rfl
  · rfl
  · rfl
  · rfl
  · rfl
  · rfl
  · rfl
  · omega
def nt_Waiters : Nat → FieldType := fun k => match k with
  | 0 => (.array (.object "SyncHall$Worker"))
  | _ => .int
theorem nt_Waiters_p : ∀ k, k < 2 → parseFieldDescriptor (fx_Waiters k).2.2.1 = some (nt_Waiters k) := by
  intro k hk
  rcases k with _ | _ | k
  · exact pd_ALWorker
  · exact pd_I
  · omega
theorem nt_Waiters_d : ∀ j, j < 2 → defaultValue (nt_Waiters j) = vp_V [.null, .int 0] j := by
  intro k hk
  rcases k with _ | _ | k
  · rfl
  · rfl
  · omega
def nt_LockOrder : Nat → FieldType := fun k => match k with
  | 0 => (.array .int)
  | 1 => .int
  | _ => .int
theorem nt_LockOrder_p : ∀ k, k < 3 → parseFieldDescriptor (fx_LockOrder k).2.2.1 = some (nt_LockOrder k) := by
  intro k hk
  rcases k with _ | _ | _ | k
  · exact pd_AI
  · exact pd_I
  · exact pd_I
  · omega
theorem nt_LockOrder_d : ∀ j, j < 3 → defaultValue (nt_LockOrder j) = vp_V [.null, .int 0, .int 0] j := by
  intro k hk
  rcases k with _ | _ | _ | k
  · rfl
  · rfl
  · rfl
  · omega
def nt_Lock : Nat → FieldType := fun k => match k with
  | 0 => .int
  | 1 => (.object "SyncHall$Waiters")
  | 2 => .double
  | 3 => .int
  | 4 => (.object "SyncHall$Worker")
  | _ => .int
theorem nt_Lock_p : ∀ k, k < 6 → parseFieldDescriptor (fx_Lock k).2.2.1 = some (nt_Lock k) := by
  intro k hk
  rcases k with _ | _ | _ | _ | _ | _ | k
  · exact pd_I
  · exact pd_LWaiters
  · exact pd_D
  · exact pd_I
  · exact pd_LWorker
  · exact pd_I
  · omega
theorem nt_Lock_d : ∀ j, j < 6 → defaultValue (nt_Lock j) = vp_V [.int 0, .null, .double FP.dconst0, .int 0, .null, .int 0] j := by
  intro k hk
  rcases k with _ | _ | _ | _ | _ | _ | k
  · rfl
  · rfl
  · rfl
  · rfl
  · rfl
  · rfl
  · omega
def nt_Semaphore : Nat → FieldType := fun k => match k with
  | 0 => .int
  | 1 => (.object "SyncHall$Waiters")
  | 2 => .double
  | 3 => .int
  | _ => .int
theorem nt_Semaphore_p : ∀ k, k < 5 → parseFieldDescriptor (fx_Semaphore k).2.2.1 = some (nt_Semaphore k) := by
  intro k hk
  rcases k with _ | _ | _ | _ | _ | k
  · exact pd_I
  · exact pd_LWaiters
  · exact pd_D
  · exact pd_I
  · exact pd_I
  · omega
theorem nt_Semaphore_d : ∀ j, j < 5 → defaultValue (nt_Semaphore j) = vp_V [.int 0, .null, .double FP.dconst0, .int 0, .int 0] j := by
  intro k hk
  rcases k with _ | _ | _ | _ | _ | k
  · rfl
  · rfl
  · rfl
  · rfl
  · rfl
  · omega
def nt_Latch : Nat → FieldType := fun k => match k with
  | 0 => .int
  | 1 => (.object "SyncHall$Waiters")
  | 2 => .double
  | 3 => .int
  | _ => .int
theorem nt_Latch_p : ∀ k, k < 5 → parseFieldDescriptor (fx_Latch k).2.2.1 = some (nt_Latch k) := by
  intro k hk
  rcases k with _ | _ | _ | _ | _ | k
  · exact pd_I
  · exact pd_LWaiters
  · exact pd_D
  · exact pd_I
  · exact pd_I
  · omega
theorem nt_Latch_d : ∀ j, j < 5 → defaultValue (nt_Latch j) = vp_V [.int 0, .null, .double FP.dconst0, .int 0, .int 0] j := by
  intro k hk
  rcases k with _ | _ | _ | _ | _ | k
  · rfl
  · rfl
  · rfl
  · rfl
  · rfl
  · omega
def nt_Shared : Nat → FieldType := fun k => match k with
  | 0 => .int
  | 1 => (.object "SyncHall$Waiters")
  | 2 => .double
  | 3 => .int
  | 4 => (.array .int)
  | 5 => (.object "SyncHall$Worker")
  | _ => .int
theorem nt_Shared_p : ∀ k, k < 7 → parseFieldDescriptor (fx_Shared k).2.2.1 = some (nt_Shared k) := by
  intro k hk
  rcases k with _ | _ | _ | _ | _ | _ | _ | k
  · exact pd_I
  · exact pd_LWaiters
  · exact pd_D
  · exact pd_I
  · exact pd_AI
  · exact pd_LWorker
  · exact pd_I
  · omega
theorem nt_Shared_d : ∀ j, j < 7 → defaultValue (nt_Shared j) = vp_V [.int 0, .null, .double FP.dconst0, .int 0, .null, .null, .int 0] j := by
  intro k hk
  rcases k with _ | _ | _ | _ | _ | _ | _ | k
  · rfl
  · rfl
  · rfl
  · rfl
  · rfl
  · rfl
  · rfl
  · omega
def nt_Condition : Nat → FieldType := fun k => match k with
  | 0 => .int
  | 1 => (.object "SyncHall$Waiters")
  | 2 => .double
  | 3 => .int
  | _ => (.object "SyncHall$Lock")
theorem nt_Condition_p : ∀ k, k < 5 → parseFieldDescriptor (fx_Condition k).2.2.1 = some (nt_Condition k) := by
  intro k hk
  rcases k with _ | _ | _ | _ | _ | k
  · exact pd_I
  · exact pd_LWaiters
  · exact pd_D
  · exact pd_I
  · exact pd_LLock
  · omega
theorem nt_Condition_d : ∀ j, j < 5 → defaultValue (nt_Condition j) = vp_V [.int 0, .null, .double FP.dconst0, .int 0, .null] j := by
  intro k hk
  rcases k with _ | _ | _ | _ | _ | k
  · rfl
  · rfl
  · rfl
  · rfl
  · rfl
  · omega
def nt_Mod : Nat → FieldType := fun k => match k with
  | 0 => .int
  | 1 => (.array .boolean)
  | 2 => (.array .boolean)
  | 3 => (.array .double)
  | 4 => (.array .int)
  | 5 => (.array .int)
  | 6 => (.array .int)
  | 7 => (.array .double)
  | 8 => (.array .double)
  | 9 => (.array .int)
  | 10 => (.array .int)
  | 11 => .double
  | 12 => (.array .int)
  | 13 => (.array .int)
  | 14 => (.array .int)
  | 15 => (.array .int)
  | 16 => (.array .int)
  | 17 => (.array .int)
  | 18 => (.array .int)
  | 19 => (.array .int)
  | 20 => (.array .double)
  | 21 => (.array .int)
  | 22 => (.array .boolean)
  | 23 => (.array .boolean)
  | 24 => .int
  | _ => .int
theorem nt_Mod_p : ∀ k, k < 26 → parseFieldDescriptor (fx_Mod k).2.2.1 = some (nt_Mod k) := by
  intro k hk
  rcases k with _ | _ | _ | _ | _ | _ | _ | _ | _ | _ | _ | _ | _ | _ | _ | _ | _ | _ | _ | _ | _ | _ | _ | _ | _ | _ | k
  · exact pd_I
  · exact pd_AZ
  · exact pd_AZ
  · exact pd_AD
  · exact pd_AI
  · exact pd_AI
  · exact pd_AI
  · exact pd_AD
  · exact pd_AD
  · exact pd_AI
  · exact pd_AI
  · exact pd_D
  · exact pd_AI
  · exact pd_AI
  · exact pd_AI
  · exact pd_AI
  · exact pd_AI
  · exact pd_AI
  · exact pd_AI
  · exact pd_AI
  · exact pd_AD
  · exact pd_AI
  · exact pd_AZ
  · exact pd_AZ
  · exact pd_I
  · exact pd_I
  · omega
theorem nt_Mod_d : ∀ j, j < 26 → defaultValue (nt_Mod j) = vp_V [.int 0, .null, .null, .null, .null, .null, .null, .null, .null, .null, .null, .double FP.dconst0, .null, .null, .null, .null, .null, .null, .null, .null, .null, .null, .null, .null, .int 0, .int 0] j := by
  intro k hk
  rcases k with _ | _ | _ | _ | _ | _ | _ | _ | _ | _ | _ | _ | _ | _ | _ | _ | _ | _ | _ | _ | _ | _ | _ | _ | _ | _ | k
  · rfl
  · rfl
  · rfl
  · rfl
  · rfl
  · rfl
  · rfl
  · rfl
  · rfl
  · rfl
  · rfl
  · rfl
  · rfl
  · rfl
  · rfl
  · rfl
  · rfl
  · rfl
  · rfl
  · rfl
  · rfl
  · rfl
  · rfl
  · rfl
  · rfl
  · rfl
  · omega
theorem sx_Worker_init {n : Nat} {h : sh_Hp} {a : Nat} {i : Int32} (h_a : a < n) (f_a : h a = some (false, 1, [.int 0, .double FP.dconst0, .int 0, .int 0, .null, .int 0, .int 0, .double FP.dconst0, .double FP.dconst0, .int 0, .int 0, .int 0])) : sx_M md_Worker_init [.ref a, .int i] n h none (fun n' h' => n' = n ∧ h' a = some (false, 1, [.int i, .double FP.dconst0, .int 0, .int (-1), .null, .int 0, .int 0, .double FP.dconst0, .double FP.dconst0, .int 0, .int 0, .int 0]) ∧ ∀ q, q < n → q ≠ a → h' q = h q) := by
  have w0 : ∀ q, q < n → q ≠ a → h q = h q := fun _ _ _ => rfl
  refine sx_p (fun Z k => sh_aload_n dc_Worker_init_0 rfl rfl k) ?_
  refine sx_p (fun Z k => sh_obj dc_Worker_init_1 wd_83 wd_75 wd_76 (by decide) (by decide) k) ?_
  refine sx_p (fun Z k => sh_aload_n dc_Worker_init_4 rfl rfl k) ?_
  refine sx_p (fun Z k => sh_iload_n dc_Worker_init_5 rfl rfl k) ?_
  refine sx_o (q := a) (o := (false, 1, [.int i, .double FP.dconst0, .int 0, .int 0, .null, .int 0, .int 0, .double FP.dconst0, .double FP.dconst0, .int 0, .int 0, .int 0])) (fun Z k => sh_putF (k := 0) dc_Worker_init_6 f_a rfl (by decide) wd_84 rfl rfl rfl pd_I rfl rfl k) ?_
  intro h1 g1 e1
  have f1_0 : h1 a = some (false, 1, [.int i, .double FP.dconst0, .int 0, .int 0, .null, .int 0, .int 0, .double FP.dconst0, .double FP.dconst0, .int 0, .int 0, .int 0]) := g1
  have w1 : ∀ q, q < n → q ≠ a → h1 q = h q := fun q hq na => (e1 q (by omega)).trans (w0 q hq na)
  refine sx_p (fun Z k => sh_aload_n dc_Worker_init_9 rfl rfl k) ?_
  refine sx_p (fun Z k => sh_iconst (v := (-1)) dc_Worker_init_10 (by decide) k) ?_
  refine sx_o (q := a) (o := (false, 1, [.int i, .double FP.dconst0, .int 0, .int (-1), .null, .int 0, .int 0, .double FP.dconst0, .double FP.dconst0, .int 0, .int 0, .int 0])) (fun Z k => sh_put (k := 3) dc_Worker_init_11 f1_0 rfl (by decide) fl_Worker_15 rfl pd_I rfl rfl k) ?_
  intro h2 g2 e2
  have f2_0 : h2 a = some (false, 1, [.int i, .double FP.dconst0, .int 0, .int (-1), .null, .int 0, .int 0, .double FP.dconst0, .double FP.dconst0, .int 0, .int 0, .int 0]) := g2
  have w2 : ∀ q, q < n → q ≠ a → h2 q = h q := fun q hq na => (e2 q (by omega)).trans (w1 q hq na)
  exact sx_e (sh_return dc_Worker_init_14 rfl (by decide) (by decide)) ⟨rfl, f2_0, w2⟩
theorem sx_Waiters_init {n : Nat} {h : sh_Hp} {a : Nat} (h_a : a < n) (f_a : h a = some (false, 2, [.null, .int 0])) : sx_M md_Waiters_init [.ref a] n h none (fun n' h' => n' = n + 1 ∧ h' a = some (false, 2, [.ref n, .int 0]) ∧ h' n = some (true, 4, [.null, .null, .null, .null, .null, .null]) ∧ ∀ q, q < n → q ≠ a → h' q = h q) := by
  have w0 : ∀ q, q < n → q ≠ a → h q = h q := fun _ _ _ => rfl
  refine sx_p (fun Z k => sh_aload_n dc_Waiters_init_0 rfl rfl k) ?_
  refine sx_p (fun Z k => sh_obj dc_Waiters_init_1 wd_327 wd_75 wd_76 (by decide) (by decide) k) ?_
  refine sx_p (fun Z k => sh_aload_n dc_Waiters_init_4 rfl rfl k) ?_
  refine sx_p (fun Z k => sh_bipush (v := 6) dc_Waiters_init_5 (by decide) k) ?_
  refine sx_n (o := (true, 4, [.null, .null, .null, .null, .null, .null])) (fun Z k => sh_anew (N := 6) dc_Waiters_init_7 (ti := 4) rfl wd_328 wd_78 (by decide) (by decide) (by decide) (by decide) (by decide) k) ?_
  intro h1 g1 e1
  have f1_0 : h1 a = some (false, 2, [.null, .int 0]) := (e1 _ (by omega)).trans f_a
  have f1_1 : h1 n = some (true, 4, [.null, .null, .null, .null, .null, .null]) := g1
  have w1 : ∀ q, q < n → q ≠ a → h1 q = h q := fun q hq na => (e1 q (by omega)).trans (w0 q hq na)
  refine sx_o (q := a) (o := (false, 2, [.ref n, .int 0])) (fun Z k => sh_putF (k := 0) dc_Waiters_init_10 f1_0 rfl (by decide) wd_329 rfl rfl rfl pd_ALWorker rfl rfl k) ?_
  intro h2 g2 e2
  have f2_1 : h2 n = some (true, 4, [.null, .null, .null, .null, .null, .null]) := (e2 _ (by omega)).trans f1_1
  have f2_0 : h2 a = some (false, 2, [.ref n, .int 0]) := g2
  have w2 : ∀ q, q < n → q ≠ a → h2 q = h q := fun q hq na => (e2 q (by omega)).trans (w1 q hq na)
  refine sx_p (fun Z k => sh_aload_n dc_Waiters_init_13 rfl rfl k) ?_
  refine sx_p (fun Z k => sh_iconst (v := 0) dc_Waiters_init_14 (by decide) k) ?_
  refine sx_o (q := a) (o := (false, 2, [.ref n, .int 0])) (fun Z k => sh_put (k := 1) dc_Waiters_init_15 f2_0 rfl (by decide) fl_Waiters_17 rfl pd_I rfl rfl k) ?_
  intro h3 g3 e3
  have f3_1 : h3 n = some (true, 4, [.null, .null, .null, .null, .null, .null]) := (e3 _ (by omega)).trans f2_1
  have f3_0 : h3 a = some (false, 2, [.ref n, .int 0]) := g3
  have w3 : ∀ q, q < n → q ≠ a → h3 q = h q := fun q hq na => (e3 q (by omega)).trans (w2 q hq na)
  exact sx_e (sh_return dc_Waiters_init_18 rfl (by decide) (by decide)) ⟨rfl, f3_0, f3_1, w3⟩
theorem sx_Sync_init_Lock {n : Nat} {h : sh_Hp} {a : Nat} {i : Int32} (h_a : a < n) (f_a : h a = some (false, 4, [.int 0, .null, .double FP.dconst0, .int 0, .null, .int 0])) : sx_M md_Sync_init [.ref a, .int i] n h none (fun n' h' => n' = n + 1 + 1 ∧ h' a = some (false, 4, [.int i, .ref n, .double FP.dconst0, .int 0, .null, .int 0]) ∧ h' n = some (false, 2, [.ref (n + 1), .int 0]) ∧ h' (n + 1) = some (true, 4, [.null, .null, .null, .null, .null, .null]) ∧ ∀ q, q < n → q ≠ a → h' q = h q) := by
  have w0 : ∀ q, q < n → q ≠ a → h q = h q := fun _ _ _ => rfl
  refine sx_p (fun Z k => sh_aload_n dc_Sync_init_0 rfl rfl k) ?_
  refine sx_p (fun Z k => sh_obj dc_Sync_init_1 wd_321 wd_75 wd_76 (by decide) (by decide) k) ?_
  refine sx_p (fun Z k => sh_aload_n dc_Sync_init_4 rfl rfl k) ?_
  refine sx_p (fun Z k => sh_iload_n dc_Sync_init_5 rfl rfl k) ?_
  refine sx_o (q := a) (o := (false, 4, [.int i, .null, .double FP.dconst0, .int 0, .null, .int 0])) (fun Z k => sh_putF (k := 0) dc_Sync_init_6 f_a rfl (by decide) wd_340 rfl rfl rfl pd_I rfl rfl k) ?_
  intro h1 g1 e1
  have f1_0 : h1 a = some (false, 4, [.int i, .null, .double FP.dconst0, .int 0, .null, .int 0]) := g1
  have w1 : ∀ q, q < n → q ≠ a → h1 q = h q := fun q hq na => (e1 q (by omega)).trans (w0 q hq na)
  refine sx_p (fun Z k => sh_aload_n dc_Sync_init_9 rfl rfl k) ?_
  refine sx_n (o := (false, 2, [.null, .int 0])) (fun Z k => sh_new (ty := nt_Waiters) dc_Sync_init_10 rfl wd_322 wd_323 wd_62 nt_Waiters_p rfl nt_Waiters_d (by decide) (by decide) k) ?_
  intro h2 g2 e2
  have f2_0 : h2 a = some (false, 4, [.int i, .null, .double FP.dconst0, .int 0, .null, .int 0]) := (e2 _ (by omega)).trans f1_0
  have f2_1 : h2 n = some (false, 2, [.null, .int 0]) := g2
  have w2 : ∀ q, q < n → q ≠ a → h2 q = h q := fun q hq na => (e2 q (by omega)).trans (w1 q hq na)
  refine sx_p (fun Z k => sh_dup dc_Sync_init_13 rfl k) ?_
  refine sx_c (sh_init (As := []) dc_Sync_init_14 lm_Waiters_init ln_Sync_17 wd_325 rfl rfl rfl rfl (Nat.le_of_ble_eq_true rfl)) (sx_Waiters_init (a := n) (n := n + 1) (h := h2) (by omega) f2_1) ⟨by decide, Nat.le_of_ble_eq_true rfl, by decide, by decide⟩ ?_
  rintro _ h3 ⟨rfl, z3_0, z3_1, e3⟩
  have f3_0 : h3 a = some (false, 4, [.int i, .null, .double FP.dconst0, .int 0, .null, .int 0]) := (e3 _ (by omega) (by omega)).trans f2_0
  have f3_1 : h3 n = some (false, 2, [.ref (n + 1), .int 0]) := z3_0
  have f3_2 : h3 (n + 1) = some (true, 4, [.null, .null, .null, .null, .null, .null]) := z3_1
  have w3 : ∀ q, q < n → q ≠ a → h3 q = h q := fun q hq na => (e3 q (by omega) (by omega)).trans (w2 q hq na)
  refine sx_o (q := a) (o := (false, 4, [.int i, .ref n, .double FP.dconst0, .int 0, .null, .int 0])) (fun Z k => sh_putF (k := 1) dc_Sync_init_17 f3_0 rfl (by decide) wd_346 rfl rfl rfl pd_LWaiters rfl rfl k) ?_
  intro h4 g4 e4
  have f4_1 : h4 n = some (false, 2, [.ref (n + 1), .int 0]) := (e4 _ (by omega)).trans f3_1
  have f4_2 : h4 (n + 1) = some (true, 4, [.null, .null, .null, .null, .null, .null]) := (e4 _ (by omega)).trans f3_2
  have f4_0 : h4 a = some (false, 4, [.int i, .ref n, .double FP.dconst0, .int 0, .null, .int 0]) := g4
  have w4 : ∀ q, q < n → q ≠ a → h4 q = h q := fun q hq na => (e4 q (by omega)).trans (w3 q hq na)
  exact sx_e (sh_return dc_Sync_init_20 rfl (by decide) (by decide)) ⟨rfl, f4_0, f4_1, f4_2, w4⟩
theorem sx_Sync_init_Semaphore {n : Nat} {h : sh_Hp} {a : Nat} {i : Int32} (h_a : a < n) (f_a : h a = some (false, 5, [.int 0, .null, .double FP.dconst0, .int 0, .int 0])) : sx_M md_Sync_init [.ref a, .int i] n h none (fun n' h' => n' = n + 1 + 1 ∧ h' a = some (false, 5, [.int i, .ref n, .double FP.dconst0, .int 0, .int 0]) ∧ h' n = some (false, 2, [.ref (n + 1), .int 0]) ∧ h' (n + 1) = some (true, 4, [.null, .null, .null, .null, .null, .null]) ∧ ∀ q, q < n → q ≠ a → h' q = h q) := by
  have w0 : ∀ q, q < n → q ≠ a → h q = h q := fun _ _ _ => rfl
  refine sx_p (fun Z k => sh_aload_n dc_Sync_init_0 rfl rfl k) ?_
  refine sx_p (fun Z k => sh_obj dc_Sync_init_1 wd_321 wd_75 wd_76 (by decide) (by decide) k) ?_
  refine sx_p (fun Z k => sh_aload_n dc_Sync_init_4 rfl rfl k) ?_
  refine sx_p (fun Z k => sh_iload_n dc_Sync_init_5 rfl rfl k) ?_
  refine sx_o (q := a) (o := (false, 5, [.int i, .null, .double FP.dconst0, .int 0, .int 0])) (fun Z k => sh_putF (k := 0) dc_Sync_init_6 f_a rfl (by decide) wd_340 rfl rfl rfl pd_I rfl rfl k) ?_
  intro h1 g1 e1
  have f1_0 : h1 a = some (false, 5, [.int i, .null, .double FP.dconst0, .int 0, .int 0]) := g1
  have w1 : ∀ q, q < n → q ≠ a → h1 q = h q := fun q hq na => (e1 q (by omega)).trans (w0 q hq na)
  refine sx_p (fun Z k => sh_aload_n dc_Sync_init_9 rfl rfl k) ?_
  refine sx_n (o := (false, 2, [.null, .int 0])) (fun Z k => sh_new (ty := nt_Waiters) dc_Sync_init_10 rfl wd_322 wd_323 wd_62 nt_Waiters_p rfl nt_Waiters_d (by decide) (by decide) k) ?_
  intro h2 g2 e2
  have f2_0 : h2 a = some (false, 5, [.int i, .null, .double FP.dconst0, .int 0, .int 0]) := (e2 _ (by omega)).trans f1_0
  have f2_1 : h2 n = some (false, 2, [.null, .int 0]) := g2
  have w2 : ∀ q, q < n → q ≠ a → h2 q = h q := fun q hq na => (e2 q (by omega)).trans (w1 q hq na)
  refine sx_p (fun Z k => sh_dup dc_Sync_init_13 rfl k) ?_
  refine sx_c (sh_init (As := []) dc_Sync_init_14 lm_Waiters_init ln_Sync_17 wd_325 rfl rfl rfl rfl (Nat.le_of_ble_eq_true rfl)) (sx_Waiters_init (a := n) (n := n + 1) (h := h2) (by omega) f2_1) ⟨by decide, Nat.le_of_ble_eq_true rfl, by decide, by decide⟩ ?_
  rintro _ h3 ⟨rfl, z3_0, z3_1, e3⟩
  have f3_0 : h3 a = some (false, 5, [.int i, .null, .double FP.dconst0, .int 0, .int 0]) := (e3 _ (by omega) (by omega)).trans f2_0
  have f3_1 : h3 n = some (false, 2, [.ref (n + 1), .int 0]) := z3_0
  have f3_2 : h3 (n + 1) = some (true, 4, [.null, .null, .null, .null, .null, .null]) := z3_1
  have w3 : ∀ q, q < n → q ≠ a → h3 q = h q := fun q hq na => (e3 q (by omega) (by omega)).trans (w2 q hq na)
  refine sx_o (q := a) (o := (false, 5, [.int i, .ref n, .double FP.dconst0, .int 0, .int 0])) (fun Z k => sh_putF (k := 1) dc_Sync_init_17 f3_0 rfl (by decide) wd_346 rfl rfl rfl pd_LWaiters rfl rfl k) ?_
  intro h4 g4 e4
  have f4_1 : h4 n = some (false, 2, [.ref (n + 1), .int 0]) := (e4 _ (by omega)).trans f3_1
  have f4_2 : h4 (n + 1) = some (true, 4, [.null, .null, .null, .null, .null, .null]) := (e4 _ (by omega)).trans f3_2
  have f4_0 : h4 a = some (false, 5, [.int i, .ref n, .double FP.dconst0, .int 0, .int 0]) := g4
  have w4 : ∀ q, q < n → q ≠ a → h4 q = h q := fun q hq na => (e4 q (by omega)).trans (w3 q hq na)
  exact sx_e (sh_return dc_Sync_init_20 rfl (by decide) (by decide)) ⟨rfl, f4_0, f4_1, f4_2, w4⟩
theorem sx_Sync_init_Latch {n : Nat} {h : sh_Hp} {a : Nat} {i : Int32} (h_a : a < n) (f_a : h a = some (false, 6, [.int 0, .null, .double FP.dconst0, .int 0, .int 0])) : sx_M md_Sync_init [.ref a, .int i] n h none (fun n' h' => n' = n + 1 + 1 ∧ h' a = some (false, 6, [.int i, .ref n, .double FP.dconst0, .int 0, .int 0]) ∧ h' n = some (false, 2, [.ref (n + 1), .int 0]) ∧ h' (n + 1) = some (true, 4, [.null, .null, .null, .null, .null, .null]) ∧ ∀ q, q < n → q ≠ a → h' q = h q) := by
  have w0 : ∀ q, q < n → q ≠ a → h q = h q := fun _ _ _ => rfl
  refine sx_p (fun Z k => sh_aload_n dc_Sync_init_0 rfl rfl k) ?_
  refine sx_p (fun Z k => sh_obj dc_Sync_init_1 wd_321 wd_75 wd_76 (by decide) (by decide) k) ?_
  refine sx_p (fun Z k => sh_aload_n dc_Sync_init_4 rfl rfl k) ?_
  refine sx_p (fun Z k => sh_iload_n dc_Sync_init_5 rfl rfl k) ?_
  refine sx_o (q := a) (o := (false, 6, [.int i, .null, .double FP.dconst0, .int 0, .int 0])) (fun Z k => sh_putF (k := 0) dc_Sync_init_6 f_a rfl (by decide) wd_340 rfl rfl rfl pd_I rfl rfl k) ?_
  intro h1 g1 e1
  have f1_0 : h1 a = some (false, 6, [.int i, .null, .double FP.dconst0, .int 0, .int 0]) := g1
  have w1 : ∀ q, q < n → q ≠ a → h1 q = h q := fun q hq na => (e1 q (by omega)).trans (w0 q hq na)
  refine sx_p (fun Z k => sh_aload_n dc_Sync_init_9 rfl rfl k) ?_
  refine sx_n (o := (false, 2, [.null, .int 0])) (fun Z k => sh_new (ty := nt_Waiters) dc_Sync_init_10 rfl wd_322 wd_323 wd_62 nt_Waiters_p rfl nt_Waiters_d (by decide) (by decide) k) ?_
  intro h2 g2 e2
  have f2_0 : h2 a = some (false, 6, [.int i, .null, .double FP.dconst0, .int 0, .int 0]) := (e2 _ (by omega)).trans f1_0
  have f2_1 : h2 n = some (false, 2, [.null, .int 0]) := g2
  have w2 : ∀ q, q < n → q ≠ a → h2 q = h q := fun q hq na => (e2 q (by omega)).trans (w1 q hq na)
  refine sx_p (fun Z k => sh_dup dc_Sync_init_13 rfl k) ?_
  refine sx_c (sh_init (As := []) dc_Sync_init_14 lm_Waiters_init ln_Sync_17 wd_325 rfl rfl rfl rfl (Nat.le_of_ble_eq_true rfl)) (sx_Waiters_init (a := n) (n := n + 1) (h := h2) (by omega) f2_1) ⟨by decide, Nat.le_of_ble_eq_true rfl, by decide, by decide⟩ ?_
  rintro _ h3 ⟨rfl, z3_0, z3_1, e3⟩
  have f3_0 : h3 a = some (false, 6, [.int i, .null, .double FP.dconst0, .int 0, .int 0]) := (e3 _ (by omega) (by omega)).trans f2_0
  have f3_1 : h3 n = some (false, 2, [.ref (n + 1), .int 0]) := z3_0
  have f3_2 : h3 (n + 1) = some (true, 4, [.null, .null, .null, .null, .null, .null]) := z3_1
  have w3 : ∀ q, q < n → q ≠ a → h3 q = h q := fun q hq na => (e3 q (by omega) (by omega)).trans (w2 q hq na)
  refine sx_o (q := a) (o := (false, 6, [.int i, .ref n, .double FP.dconst0, .int 0, .int 0])) (fun Z k => sh_putF (k := 1) dc_Sync_init_17 f3_0 rfl (by decide) wd_346 rfl rfl rfl pd_LWaiters rfl rfl k) ?_
  intro h4 g4 e4
  have f4_1 : h4 n = some (false, 2, [.ref (n + 1), .int 0]) := (e4 _ (by omega)).trans f3_1
  have f4_2 : h4 (n + 1) = some (true, 4, [.null, .null, .null, .null, .null, .null]) := (e4 _ (by omega)).trans f3_2
  have f4_0 : h4 a = some (false, 6, [.int i, .ref n, .double FP.dconst0, .int 0, .int 0]) := g4
  have w4 : ∀ q, q < n → q ≠ a → h4 q = h q := fun q hq na => (e4 q (by omega)).trans (w3 q hq na)
  exact sx_e (sh_return dc_Sync_init_20 rfl (by decide) (by decide)) ⟨rfl, f4_0, f4_1, f4_2, w4⟩
theorem sx_Sync_init_Shared {n : Nat} {h : sh_Hp} {a : Nat} {i : Int32} (h_a : a < n) (f_a : h a = some (false, 7, [.int 0, .null, .double FP.dconst0, .int 0, .null, .null, .int 0])) : sx_M md_Sync_init [.ref a, .int i] n h none (fun n' h' => n' = n + 1 + 1 ∧ h' a = some (false, 7, [.int i, .ref n, .double FP.dconst0, .int 0, .null, .null, .int 0]) ∧ h' n = some (false, 2, [.ref (n + 1), .int 0]) ∧ h' (n + 1) = some (true, 4, [.null, .null, .null, .null, .null, .null]) ∧ ∀ q, q < n → q ≠ a → h' q = h q) := by
  have w0 : ∀ q, q < n → q ≠ a → h q = h q := fun _ _ _ => rfl
  refine sx_p (fun Z k => sh_aload_n dc_Sync_init_0 rfl rfl k) ?_
  refine sx_p (fun Z k => sh_obj dc_Sync_init_1 wd_321 wd_75 wd_76 (by decide) (by decide) k) ?_
  refine sx_p (fun Z k => sh_aload_n dc_Sync_init_4 rfl rfl k) ?_
  refine sx_p (fun Z k => sh_iload_n dc_Sync_init_5 rfl rfl k) ?_
  refine sx_o (q := a) (o := (false, 7, [.int i, .null, .double FP.dconst0, .int 0, .null, .null, .int 0])) (fun Z k => sh_putF (k := 0) dc_Sync_init_6 f_a rfl (by decide) wd_340 rfl rfl rfl pd_I rfl rfl k) ?_
  intro h1 g1 e1
  have f1_0 : h1 a = some (false, 7, [.int i, .null, .double FP.dconst0, .int 0, .null, .null, .int 0]) := g1
  have w1 : ∀ q, q < n → q ≠ a → h1 q = h q := fun q hq na => (e1 q (by omega)).trans (w0 q hq na)
  refine sx_p (fun Z k => sh_aload_n dc_Sync_init_9 rfl rfl k) ?_
  refine sx_n (o := (false, 2, [.null, .int 0])) (fun Z k => sh_new (ty := nt_Waiters) dc_Sync_init_10 rfl wd_322 wd_323 wd_62 nt_Waiters_p rfl nt_Waiters_d (by decide) (by decide) k) ?_
  intro h2 g2 e2
  have f2_0 : h2 a = some (false, 7, [.int i, .null, .double FP.dconst0, .int 0, .null, .null, .int 0]) := (e2 _ (by omega)).trans f1_0
  have f2_1 : h2 n = some (false, 2, [.null, .int 0]) := g2
  have w2 : ∀ q, q < n → q ≠ a → h2 q = h q := fun q hq na => (e2 q (by omega)).trans (w1 q hq na)
  refine sx_p (fun Z k => sh_dup dc_Sync_init_13 rfl k) ?_
  refine sx_c (sh_init (As := []) dc_Sync_init_14 lm_Waiters_init ln_Sync_17 wd_325 rfl rfl rfl rfl (Nat.le_of_ble_eq_true rfl)) (sx_Waiters_init (a := n) (n := n + 1) (h := h2) (by omega) f2_1) ⟨by decide, Nat.le_of_ble_eq_true rfl, by decide, by decide⟩ ?_
  rintro _ h3 ⟨rfl, z3_0, z3_1, e3⟩
  have f3_0 : h3 a = some (false, 7, [.int i, .null, .double FP.dconst0, .int 0, .null, .null, .int 0]) := (e3 _ (by omega) (by omega)).trans f2_0
  have f3_1 : h3 n = some (false, 2, [.ref (n + 1), .int 0]) := z3_0
  have f3_2 : h3 (n + 1) = some (true, 4, [.null, .null, .null, .null, .null, .null]) := z3_1
  have w3 : ∀ q, q < n → q ≠ a → h3 q = h q := fun q hq na => (e3 q (by omega) (by omega)).trans (w2 q hq na)
  refine sx_o (q := a) (o := (false, 7, [.int i, .ref n, .double FP.dconst0, .int 0, .null, .null, .int 0])) (fun Z k => sh_putF (k := 1) dc_Sync_init_17 f3_0 rfl (by decide) wd_346 rfl rfl rfl pd_LWaiters rfl rfl k) ?_
  intro h4 g4 e4
  have f4_1 : h4 n = some (false, 2, [.ref (n + 1), .int 0]) := (e4 _ (by omega)).trans f3_1
  have f4_2 : h4 (n + 1) = some (true, 4, [.null, .null, .null, .null, .null, .null]) := (e4 _ (by omega)).trans f3_2
  have f4_0 : h4 a = some (false, 7, [.int i, .ref n, .double FP.dconst0, .int 0, .null, .null, .int 0]) := g4
  have w4 : ∀ q, q < n → q ≠ a → h4 q = h q := fun q hq na => (e4 q (by omega)).trans (w3 q hq na)
  exact sx_e (sh_return dc_Sync_init_20 rfl (by decide) (by decide)) ⟨rfl, f4_0, f4_1, f4_2, w4⟩
theorem sx_Sync_init_Condition {n : Nat} {h : sh_Hp} {a : Nat} {i : Int32} (h_a : a < n) (f_a : h a = some (false, 8, [.int 0, .null, .double FP.dconst0, .int 0, .null])) : sx_M md_Sync_init [.ref a, .int i] n h none (fun n' h' => n' = n + 1 + 1 ∧ h' a = some (false, 8, [.int i, .ref n, .double FP.dconst0, .int 0, .null]) ∧ h' n = some (false, 2, [.ref (n + 1), .int 0]) ∧ h' (n + 1) = some (true, 4, [.null, .null, .null, .null, .null, .null]) ∧ ∀ q, q < n → q ≠ a → h' q = h q) := by
  have w0 : ∀ q, q < n → q ≠ a → h q = h q := fun _ _ _ => rfl
  refine sx_p (fun Z k => sh_aload_n dc_Sync_init_0 rfl rfl k) ?_
  refine sx_p (fun Z k => sh_obj dc_Sync_init_1 wd_321 wd_75 wd_76 (by decide) (by decide) k) ?_
  refine sx_p (fun Z k => sh_aload_n dc_Sync_init_4 rfl rfl k) ?_
  refine sx_p (fun Z k => sh_iload_n dc_Sync_init_5 rfl rfl k) ?_
  refine sx_o (q := a) (o := (false, 8, [.int i, .null, .double FP.dconst0, .int 0, .null])) (fun Z k => sh_putF (k := 0) dc_Sync_init_6 f_a rfl (by decide) wd_340 rfl rfl rfl pd_I rfl rfl k) ?_
  intro h1 g1 e1
  have f1_0 : h1 a = some (false, 8, [.int i, .null, .double FP.dconst0, .int 0, .null]) := g1
  have w1 : ∀ q, q < n → q ≠ a → h1 q = h q := fun q hq na => (e1 q (by omega)).trans (w0 q hq na)
  refine sx_p (fun Z k => sh_aload_n dc_Sync_init_9 rfl rfl k) ?_
  refine sx_n (o := (false, 2, [.null, .int 0])) (fun Z k => sh_new (ty := nt_Waiters) dc_Sync_init_10 rfl wd_322 wd_323 wd_62 nt_Waiters_p rfl nt_Waiters_d (by decide) (by decide) k) ?_
  intro h2 g2 e2
  have f2_0 : h2 a = some (false, 8, [.int i, .null, .double FP.dconst0, .int 0, .null]) := (e2 _ (by omega)).trans f1_0
  have f2_1 : h2 n = some (false, 2, [.null, .int 0]) := g2
  have w2 : ∀ q, q < n → q ≠ a → h2 q = h q := fun q hq na => (e2 q (by omega)).trans (w1 q hq na)
  refine sx_p (fun Z k => sh_dup dc_Sync_init_13 rfl k) ?_
  refine sx_c (sh_init (As := []) dc_Sync_init_14 lm_Waiters_init ln_Sync_17 wd_325 rfl rfl rfl rfl (Nat.le_of_ble_eq_true rfl)) (sx_Waiters_init (a := n) (n := n + 1) (h := h2) (by omega) f2_1) ⟨by decide, Nat.le_of_ble_eq_true rfl, by decide, by decide⟩ ?_
  rintro _ h3 ⟨rfl, z3_0, z3_1, e3⟩
  have f3_0 : h3 a = some (false, 8, [.int i, .null, .double FP.dconst0, .int 0, .null]) := (e3 _ (by omega) (by omega)).trans f2_0
  have f3_1 : h3 n = some (false, 2, [.ref (n + 1), .int 0]) := z3_0
  have f3_2 : h3 (n + 1) = some (true, 4, [.null, .null, .null, .null, .null, .null]) := z3_1
  have w3 : ∀ q, q < n → q ≠ a → h3 q = h q := fun q hq na => (e3 q (by omega) (by omega)).trans (w2 q hq na)
  refine sx_o (q := a) (o := (false, 8, [.int i, .ref n, .double FP.dconst0, .int 0, .null])) (fun Z k => sh_putF (k := 1) dc_Sync_init_17 f3_0 rfl (by decide) wd_346 rfl rfl rfl pd_LWaiters rfl rfl k) ?_
  intro h4 g4 e4
  have f4_1 : h4 n = some (false, 2, [.ref (n + 1), .int 0]) := (e4 _ (by omega)).trans f3_1
  have f4_2 : h4 (n + 1) = some (true, 4, [.null, .null, .null, .null, .null, .null]) := (e4 _ (by omega)).trans f3_2
  have f4_0 : h4 a = some (false, 8, [.int i, .ref n, .double FP.dconst0, .int 0, .null]) := g4
  have w4 : ∀ q, q < n → q ≠ a → h4 q = h q := fun q hq na => (e4 q (by omega)).trans (w3 q hq na)
  exact sx_e (sh_return dc_Sync_init_20 rfl (by decide) (by decide)) ⟨rfl, f4_0, f4_1, f4_2, w4⟩
theorem sx_Gate_init_Lock {n : Nat} {h : sh_Hp} {a : Nat} {i : Int32} (h_a : a < n) (f_a : h a = some (false, 4, [.int 0, .null, .double FP.dconst0, .int 0, .null, .int 0])) : sx_M md_Gate_init [.ref a, .int i] n h none (fun n' h' => n' = n + 1 + 1 ∧ h' a = some (false, 4, [.int i, .ref n, .double FP.dconst0, .int 0, .null, .int 0]) ∧ h' n = some (false, 2, [.ref (n + 1), .int 0]) ∧ h' (n + 1) = some (true, 4, [.null, .null, .null, .null, .null, .null]) ∧ ∀ q, q < n → q ≠ a → h' q = h q) := by
  have w0 : ∀ q, q < n → q ≠ a → h q = h q := fun _ _ _ => rfl
  refine sx_p (fun Z k => sh_aload_n dc_Gate_init_0 rfl rfl k) ?_
  refine sx_p (fun Z k => sh_iload_n dc_Gate_init_1 rfl rfl k) ?_
  refine sx_c (sh_init (As := [.int i]) dc_Gate_init_2 lm_Sync_init ln_Gate_1 wd_319 rfl rfl rfl rfl (Nat.le_of_ble_eq_true rfl)) (sx_Sync_init_Lock (a := a) (i := i) (n := n) (h := h) (by omega) f_a) ⟨by decide, Nat.le_of_ble_eq_true rfl, by decide, by decide⟩ ?_
  rintro _ h1 ⟨rfl, z1_0, z1_1, z1_2, e1⟩
  have f1_0 : h1 a = some (false, 4, [.int i, .ref n, .double FP.dconst0, .int 0, .null, .int 0]) := z1_0
  have f1_1 : h1 n = some (false, 2, [.ref (n + 1), .int 0]) := z1_1
  have f1_2 : h1 (n + 1) = some (true, 4, [.null, .null, .null, .null, .null, .null]) := z1_2
  have w1 : ∀ q, q < n → q ≠ a → h1 q = h q := fun q hq na => (e1 q (by omega) (by omega)).trans (w0 q hq na)
  exact sx_e (sh_return dc_Gate_init_5 rfl (by decide) (by decide)) ⟨rfl, f1_0, f1_1, f1_2, w1⟩
theorem sx_Gate_init_Semaphore {n : Nat} {h : sh_Hp} {a : Nat} {i : Int32} (h_a : a < n) (f_a : h a = some (false, 5, [.int 0, .null, .double FP.dconst0, .int 0, .int 0])) : sx_M md_Gate_init [.ref a, .int i] n h none (fun n' h' => n' = n + 1 + 1 ∧ h' a = some (false, 5, [.int i, .ref n, .double FP.dconst0, .int 0, .int 0]) ∧ h' n = some (false, 2, [.ref (n + 1), .int 0]) ∧ h' (n + 1) = some (true, 4, [.null, .null, .null, .null, .null, .null]) ∧ ∀ q, q < n → q ≠ a → h' q = h q) := by
  have w0 : ∀ q, q < n → q ≠ a → h q = h q := fun _ _ _ => rfl
  refine sx_p (fun Z k => sh_aload_n dc_Gate_init_0 rfl rfl k) ?_
  refine sx_p (fun Z k => sh_iload_n dc_Gate_init_1 rfl rfl k) ?_
  refine sx_c (sh_init (As := [.int i]) dc_Gate_init_2 lm_Sync_init ln_Gate_1 wd_319 rfl rfl rfl rfl (Nat.le_of_ble_eq_true rfl)) (sx_Sync_init_Semaphore (a := a) (i := i) (n := n) (h := h) (by omega) f_a) ⟨by decide, Nat.le_of_ble_eq_true rfl, by decide, by decide⟩ ?_
  rintro _ h1 ⟨rfl, z1_0, z1_1, z1_2, e1⟩
  have f1_0 : h1 a = some (false, 5, [.int i, .ref n, .double FP.dconst0, .int 0, .int 0]) := z1_0
  have f1_1 : h1 n = some (false, 2, [.ref (n + 1), .int 0]) := z1_1
  have f1_2 : h1 (n + 1) = some (true, 4, [.null, .null, .null, .null, .null, .null]) := z1_2
  have w1 : ∀ q, q < n → q ≠ a → h1 q = h q := fun q hq na => (e1 q (by omega) (by omega)).trans (w0 q hq na)
  exact sx_e (sh_return dc_Gate_init_5 rfl (by decide) (by decide)) ⟨rfl, f1_0, f1_1, f1_2, w1⟩
theorem sx_Gate_init_Latch {n : Nat} {h : sh_Hp} {a : Nat} {i : Int32} (h_a : a < n) (f_a : h a = some (false, 6, [.int 0, .null, .double FP.dconst0, .int 0, .int 0])) : sx_M md_Gate_init [.ref a, .int i] n h none (fun n' h' => n' = n + 1 + 1 ∧ h' a = some (false, 6, [.int i, .ref n, .double FP.dconst0, .int 0, .int 0]) ∧ h' n = some (false, 2, [.ref (n + 1), .int 0]) ∧ h' (n + 1) = some (true, 4, [.null, .null, .null, .null, .null, .null]) ∧ ∀ q, q < n → q ≠ a → h' q = h q) := by
  have w0 : ∀ q, q < n → q ≠ a → h q = h q := fun _ _ _ => rfl
  refine sx_p (fun Z k => sh_aload_n dc_Gate_init_0 rfl rfl k) ?_
  refine sx_p (fun Z k => sh_iload_n dc_Gate_init_1 rfl rfl k) ?_
  refine sx_c (sh_init (As := [.int i]) dc_Gate_init_2 lm_Sync_init ln_Gate_1 wd_319 rfl rfl rfl rfl (Nat.le_of_ble_eq_true rfl)) (sx_Sync_init_Latch (a := a) (i := i) (n := n) (h := h) (by omega) f_a) ⟨by decide, Nat.le_of_ble_eq_true rfl, by decide, by decide⟩ ?_
  rintro _ h1 ⟨rfl, z1_0, z1_1, z1_2, e1⟩
  have f1_0 : h1 a = some (false, 6, [.int i, .ref n, .double FP.dconst0, .int 0, .int 0]) := z1_0
  have f1_1 : h1 n = some (false, 2, [.ref (n + 1), .int 0]) := z1_1
  have f1_2 : h1 (n + 1) = some (true, 4, [.null, .null, .null, .null, .null, .null]) := z1_2
  have w1 : ∀ q, q < n → q ≠ a → h1 q = h q := fun q hq na => (e1 q (by omega) (by omega)).trans (w0 q hq na)
  exact sx_e (sh_return dc_Gate_init_5 rfl (by decide) (by decide)) ⟨rfl, f1_0, f1_1, f1_2, w1⟩
theorem sx_Gate_init_Shared {n : Nat} {h : sh_Hp} {a : Nat} {i : Int32} (h_a : a < n) (f_a : h a = some (false, 7, [.int 0, .null, .double FP.dconst0, .int 0, .null, .null, .int 0])) : sx_M md_Gate_init [.ref a, .int i] n h none (fun n' h' => n' = n + 1 + 1 ∧ h' a = some (false, 7, [.int i, .ref n, .double FP.dconst0, .int 0, .null, .null, .int 0]) ∧ h' n = some (false, 2, [.ref (n + 1), .int 0]) ∧ h' (n + 1) = some (true, 4, [.null, .null, .null, .null, .null, .null]) ∧ ∀ q, q < n → q ≠ a → h' q = h q) := by
  have w0 : ∀ q, q < n → q ≠ a → h q = h q := fun _ _ _ => rfl
  refine sx_p (fun Z k => sh_aload_n dc_Gate_init_0 rfl rfl k) ?_
  refine sx_p (fun Z k => sh_iload_n dc_Gate_init_1 rfl rfl k) ?_
  refine sx_c (sh_init (As := [.int i]) dc_Gate_init_2 lm_Sync_init ln_Gate_1 wd_319 rfl rfl rfl rfl (Nat.le_of_ble_eq_true rfl)) (sx_Sync_init_Shared (a := a) (i := i) (n := n) (h := h) (by omega) f_a) ⟨by decide, Nat.le_of_ble_eq_true rfl, by decide, by decide⟩ ?_
  rintro _ h1 ⟨rfl, z1_0, z1_1, z1_2, e1⟩
  have f1_0 : h1 a = some (false, 7, [.int i, .ref n, .double FP.dconst0, .int 0, .null, .null, .int 0]) := z1_0
  have f1_1 : h1 n = some (false, 2, [.ref (n + 1), .int 0]) := z1_1
  have f1_2 : h1 (n + 1) = some (true, 4, [.null, .null, .null, .null, .null, .null]) := z1_2
  have w1 : ∀ q, q < n → q ≠ a → h1 q = h q := fun q hq na => (e1 q (by omega) (by omega)).trans (w0 q hq na)
  exact sx_e (sh_return dc_Gate_init_5 rfl (by decide) (by decide)) ⟨rfl, f1_0, f1_1, f1_2, w1⟩
theorem sx_Lock_init {n : Nat} {h : sh_Hp} {a : Nat} {i : Int32} (h_a : a < n) (f_a : h a = some (false, 4, [.int 0, .null, .double FP.dconst0, .int 0, .null, .int 0])) : sx_M md_Lock_init [.ref a, .int i] n h none (fun n' h' => n' = n + 1 + 1 ∧ h' a = some (false, 4, [.int i, .ref n, .double FP.dconst0, .int 0, .null, .int 0]) ∧ h' n = some (false, 2, [.ref (n + 1), .int 0]) ∧ h' (n + 1) = some (true, 4, [.null, .null, .null, .null, .null, .null]) ∧ ∀ q, q < n → q ≠ a → h' q = h q) := by
  have w0 : ∀ q, q < n → q ≠ a → h q = h q := fun _ _ _ => rfl
  refine sx_p (fun Z k => sh_aload_n dc_Lock_init_0 rfl rfl k) ?_
  refine sx_p (fun Z k => sh_iload_n dc_Lock_init_1 rfl rfl k) ?_
  refine sx_c (sh_init (As := [.int i]) dc_Lock_init_2 lm_Gate_init ln_Lock_3 wd_316 rfl rfl rfl rfl (Nat.le_of_ble_eq_true rfl)) (sx_Gate_init_Lock (a := a) (i := i) (n := n) (h := h) (by omega) f_a) ⟨by decide, Nat.le_of_ble_eq_true rfl, by decide, by decide⟩ ?_
  rintro _ h1 ⟨rfl, z1_0, z1_1, z1_2, e1⟩
  have f1_0 : h1 a = some (false, 4, [.int i, .ref n, .double FP.dconst0, .int 0, .null, .int 0]) := z1_0
  have f1_1 : h1 n = some (false, 2, [.ref (n + 1), .int 0]) := z1_1
  have f1_2 : h1 (n + 1) = some (true, 4, [.null, .null, .null, .null, .null, .null]) := z1_2
  have w1 : ∀ q, q < n → q ≠ a → h1 q = h q := fun q hq na => (e1 q (by omega) (by omega)).trans (w0 q hq na)
  exact sx_e (sh_return dc_Lock_init_5 rfl (by decide) (by decide)) ⟨rfl, f1_0, f1_1, f1_2, w1⟩
theorem sx_Semaphore_init {n : Nat} {h : sh_Hp} {a : Nat} {i : Int32} {x : Int32} (h_a : a < n) (f_a : h a = some (false, 5, [.int 0, .null, .double FP.dconst0, .int 0, .int 0])) : sx_M md_Semaphore_init [.ref a, .int i, .int x] n h none (fun n' h' => n' = n + 1 + 1 ∧ h' a = some (false, 5, [.int i, .ref n, .double FP.dconst0, .int 0, .int x]) ∧ h' n = some (false, 2, [.ref (n + 1), .int 0]) ∧ h' (n + 1) = some (true, 4, [.null, .null, .null, .null, .null, .null]) ∧ ∀ q, q < n → q ≠ a → h' q = h q) := by
  have w0 : ∀ q, q < n → q ≠ a → h q = h q := fun _ _ _ => rfl
  refine sx_p (fun Z k => sh_aload_n dc_Semaphore_init_0 rfl rfl k) ?_
  refine sx_p (fun Z k => sh_iload_n dc_Semaphore_init_1 rfl rfl k) ?_
  refine sx_c (sh_init (As := [.int i]) dc_Semaphore_init_2 lm_Gate_init ln_Semaphore_3 wd_316 rfl rfl rfl rfl (Nat.le_of_ble_eq_true rfl)) (sx_Gate_init_Semaphore (a := a) (i := i) (n := n) (h := h) (by omega) f_a) ⟨by decide, Nat.le_of_ble_eq_true rfl, by decide, by decide⟩ ?_
  rintro _ h1 ⟨rfl, z1_0, z1_1, z1_2, e1⟩
  have f1_0 : h1 a = some (false, 5, [.int i, .ref n, .double FP.dconst0, .int 0, .int 0]) := z1_0
  have f1_1 : h1 n = some (false, 2, [.ref (n + 1), .int 0]) := z1_1
  have f1_2 : h1 (n + 1) = some (true, 4, [.null, .null, .null, .null, .null, .null]) := z1_2
  have w1 : ∀ q, q < n → q ≠ a → h1 q = h q := fun q hq na => (e1 q (by omega) (by omega)).trans (w0 q hq na)
  refine sx_p (fun Z k => sh_aload_n dc_Semaphore_init_5 rfl rfl k) ?_
  refine sx_p (fun Z k => sh_iload_n dc_Semaphore_init_6 rfl rfl k) ?_
  refine sx_o (q := a) (o := (false, 5, [.int i, .ref n, .double FP.dconst0, .int 0, .int x])) (fun Z k => sh_put (k := 4) dc_Semaphore_init_7 f1_0 rfl (by decide) fl_Semaphore_9 rfl pd_I rfl rfl k) ?_
  intro h2 g2 e2
  have f2_1 : h2 n = some (false, 2, [.ref (n + 1), .int 0]) := (e2 _ (by omega)).trans f1_1
  have f2_2 : h2 (n + 1) = some (true, 4, [.null, .null, .null, .null, .null, .null]) := (e2 _ (by omega)).trans f1_2
  have f2_0 : h2 a = some (false, 5, [.int i, .ref n, .double FP.dconst0, .int 0, .int x]) := g2
  have w2 : ∀ q, q < n → q ≠ a → h2 q = h q := fun q hq na => (e2 q (by omega)).trans (w1 q hq na)
  exact sx_e (sh_return dc_Semaphore_init_10 rfl (by decide) (by decide)) ⟨rfl, f2_0, f2_1, f2_2, w2⟩
theorem sx_Latch_init {n : Nat} {h : sh_Hp} {a : Nat} {x : Int32} (h_a : a < n) (f_a : h a = some (false, 6, [.int 0, .null, .double FP.dconst0, .int 0, .int 0])) : sx_M md_Latch_init [.ref a, .int x] n h none (fun n' h' => n' = n + 1 + 1 ∧ h' a = some (false, 6, [.int 4, .ref n, .double FP.dconst0, .int 0, .int x]) ∧ h' n = some (false, 2, [.ref (n + 1), .int 0]) ∧ h' (n + 1) = some (true, 4, [.null, .null, .null, .null, .null, .null]) ∧ ∀ q, q < n → q ≠ a → h' q = h q) := by
  have w0 : ∀ q, q < n → q ≠ a → h q = h q := fun _ _ _ => rfl
  refine sx_p (fun Z k => sh_aload_n dc_Latch_init_0 rfl rfl k) ?_
  refine sx_p (fun Z k => sh_iconst (v := 4) dc_Latch_init_1 (by decide) k) ?_
  refine sx_c (sh_init (As := [.int 4]) dc_Latch_init_2 lm_Gate_init ln_Latch_3 wd_316 rfl rfl rfl rfl (Nat.le_of_ble_eq_true rfl)) (sx_Gate_init_Latch (a := a) (i := 4) (n := n) (h := h) (by omega) f_a) ⟨by decide, Nat.le_of_ble_eq_true rfl, by decide, by decide⟩ ?_
  rintro _ h1 ⟨rfl, z1_0, z1_1, z1_2, e1⟩
  have f1_0 : h1 a = some (false, 6, [.int 4, .ref n, .double FP.dconst0, .int 0, .int 0]) := z1_0
  have f1_1 : h1 n = some (false, 2, [.ref (n + 1), .int 0]) := z1_1
  have f1_2 : h1 (n + 1) = some (true, 4, [.null, .null, .null, .null, .null, .null]) := z1_2
  have w1 : ∀ q, q < n → q ≠ a → h1 q = h q := fun q hq na => (e1 q (by omega) (by omega)).trans (w0 q hq na)
  refine sx_p (fun Z k => sh_aload_n dc_Latch_init_5 rfl rfl k) ?_
  refine sx_p (fun Z k => sh_iload_n dc_Latch_init_6 rfl rfl k) ?_
  refine sx_o (q := a) (o := (false, 6, [.int 4, .ref n, .double FP.dconst0, .int 0, .int x])) (fun Z k => sh_put (k := 4) dc_Latch_init_7 f1_0 rfl (by decide) fl_Latch_9 rfl pd_I rfl rfl k) ?_
  intro h2 g2 e2
  have f2_1 : h2 n = some (false, 2, [.ref (n + 1), .int 0]) := (e2 _ (by omega)).trans f1_1
  have f2_2 : h2 (n + 1) = some (true, 4, [.null, .null, .null, .null, .null, .null]) := (e2 _ (by omega)).trans f1_2
  have f2_0 : h2 a = some (false, 6, [.int 4, .ref n, .double FP.dconst0, .int 0, .int x]) := g2
  have w2 : ∀ q, q < n → q ≠ a → h2 q = h q := fun q hq na => (e2 q (by omega)).trans (w1 q hq na)
  exact sx_e (sh_return dc_Latch_init_10 rfl (by decide) (by decide)) ⟨rfl, f2_0, f2_1, f2_2, w2⟩
theorem sx_Shared_init {n : Nat} {h : sh_Hp} {a : Nat} (h_a : a < n) (f_a : h a = some (false, 7, [.int 0, .null, .double FP.dconst0, .int 0, .null, .null, .int 0])) : sx_M md_Shared_init [.ref a] n h none (fun n' h' => n' = n + 1 + 1 + 1 ∧ h' a = some (false, 7, [.int 5, .ref n, .double FP.dconst0, .int 0, .ref (n + 1 + 1), .null, .int 0]) ∧ h' n = some (false, 2, [.ref (n + 1), .int 0]) ∧ h' (n + 1) = some (true, 4, [.null, .null, .null, .null, .null, .null]) ∧ h' (n + 1 + 1) = some (true, 0, List.replicate 6 (.int 0)) ∧ ∀ q, q < n → q ≠ a → h' q = h q) := by
  have w0 : ∀ q, q < n → q ≠ a → h q = h q := fun _ _ _ => rfl
  refine sx_p (fun Z k => sh_aload_n dc_Shared_init_0 rfl rfl k) ?_
  refine sx_p (fun Z k => sh_iconst (v := 5) dc_Shared_init_1 (by decide) k) ?_
  refine sx_c (sh_init (As := [.int 5]) dc_Shared_init_2 lm_Gate_init ln_Shared_3 wd_316 rfl rfl rfl rfl (Nat.le_of_ble_eq_true rfl)) (sx_Gate_init_Shared (a := a) (i := 5) (n := n) (h := h) (by omega) f_a) ⟨by decide, Nat.le_of_ble_eq_true rfl, by decide, by decide⟩ ?_
  rintro _ h1 ⟨rfl, z1_0, z1_1, z1_2, e1⟩
  have f1_0 : h1 a = some (false, 7, [.int 5, .ref n, .double FP.dconst0, .int 0, .null, .null, .int 0]) := z1_0
  have f1_1 : h1 n = some (false, 2, [.ref (n + 1), .int 0]) := z1_1
  have f1_2 : h1 (n + 1) = some (true, 4, [.null, .null, .null, .null, .null, .null]) := z1_2
  have w1 : ∀ q, q < n → q ≠ a → h1 q = h q := fun q hq na => (e1 q (by omega) (by omega)).trans (w0 q hq na)
  refine sx_p (fun Z k => sh_aload_n dc_Shared_init_5 rfl rfl k) ?_
  refine sx_p (fun Z k => sh_bipush (v := 6) dc_Shared_init_6 (by decide) k) ?_
  refine sx_n (o := (true, 0, List.replicate 6 (.int 0))) (fun Z k => sh_newa (N := 6) dc_Shared_init_8 rfl (ti := 0) rfl (fun U cA q => q) wd_159 (by decide) (by decide) (by decide) (by decide) (by decide) k) ?_
  intro h2 g2 e2
  have f2_0 : h2 a = some (false, 7, [.int 5, .ref n, .double FP.dconst0, .int 0, .null, .null, .int 0]) := (e2 _ (by omega)).trans f1_0
  have f2_1 : h2 n = some (false, 2, [.ref (n + 1), .int 0]) := (e2 _ (by omega)).trans f1_1
  have f2_2 : h2 (n + 1) = some (true, 4, [.null, .null, .null, .null, .null, .null]) := (e2 _ (by omega)).trans f1_2
  have f2_3 : h2 (n + 1 + 1) = some (true, 0, List.replicate 6 (.int 0)) := g2
  have w2 : ∀ q, q < n → q ≠ a → h2 q = h q := fun q hq na => (e2 q (by omega)).trans (w1 q hq na)
  refine sx_o (q := a) (o := (false, 7, [.int 5, .ref n, .double FP.dconst0, .int 0, .ref (n + 1 + 1), .null, .int 0])) (fun Z k => sh_putF (k := 4) dc_Shared_init_10 f2_0 rfl (by decide) wd_410 rfl rfl rfl pd_AI rfl rfl k) ?_
  intro h3 g3 e3
  have f3_1 : h3 n = some (false, 2, [.ref (n + 1), .int 0]) := (e3 _ (by omega)).trans f2_1
  have f3_2 : h3 (n + 1) = some (true, 4, [.null, .null, .null, .null, .null, .null]) := (e3 _ (by omega)).trans f2_2
  have f3_3 : h3 (n + 1 + 1) = some (true, 0, List.replicate 6 (.int 0)) := (e3 _ (by omega)).trans f2_3
  have f3_0 : h3 a = some (false, 7, [.int 5, .ref n, .double FP.dconst0, .int 0, .ref (n + 1 + 1), .null, .int 0]) := g3
  have w3 : ∀ q, q < n → q ≠ a → h3 q = h q := fun q hq na => (e3 q (by omega)).trans (w2 q hq na)
  exact sx_e (sh_return dc_Shared_init_13 rfl (by decide) (by decide)) ⟨rfl, f3_0, f3_1, f3_2, f3_3, w3⟩
theorem sx_Condition_init {n : Nat} {h : sh_Hp} {a : Nat} {l : Nat} (h_a : a < n) (f_a : h a = some (false, 8, [.int 0, .null, .double FP.dconst0, .int 0, .null])) : sx_M md_Condition_init [.ref a, .ref l] n h none (fun n' h' => n' = n + 1 + 1 ∧ h' a = some (false, 8, [.int 6, .ref n, .double FP.dconst0, .int 0, .ref l]) ∧ h' n = some (false, 2, [.ref (n + 1), .int 0]) ∧ h' (n + 1) = some (true, 4, [.null, .null, .null, .null, .null, .null]) ∧ ∀ q, q < n → q ≠ a → h' q = h q) := by
  have w0 : ∀ q, q < n → q ≠ a → h q = h q := fun _ _ _ => rfl
  refine sx_p (fun Z k => sh_aload_n dc_Condition_init_0 rfl rfl k) ?_
  refine sx_p (fun Z k => sh_bipush (v := 6) dc_Condition_init_1 (by decide) k) ?_
  refine sx_c (sh_init (As := [.int 6]) dc_Condition_init_3 lm_Sync_init ln_Condition_3 wd_319 rfl rfl rfl rfl (Nat.le_of_ble_eq_true rfl)) (sx_Sync_init_Condition (a := a) (i := 6) (n := n) (h := h) (by omega) f_a) ⟨by decide, Nat.le_of_ble_eq_true rfl, by decide, by decide⟩ ?_
  rintro _ h1 ⟨rfl, z1_0, z1_1, z1_2, e1⟩
  have f1_0 : h1 a = some (false, 8, [.int 6, .ref n, .double FP.dconst0, .int 0, .null]) := z1_0
  have f1_1 : h1 n = some (false, 2, [.ref (n + 1), .int 0]) := z1_1
  have f1_2 : h1 (n + 1) = some (true, 4, [.null, .null, .null, .null, .null, .null]) := z1_2
  have w1 : ∀ q, q < n → q ≠ a → h1 q = h q := fun q hq na => (e1 q (by omega) (by omega)).trans (w0 q hq na)
  refine sx_p (fun Z k => sh_aload_n dc_Condition_init_6 rfl rfl k) ?_
  refine sx_p (fun Z k => sh_aload_n dc_Condition_init_7 rfl rfl k) ?_
  refine sx_o (q := a) (o := (false, 8, [.int 6, .ref n, .double FP.dconst0, .int 0, .ref l])) (fun Z k => sh_putF (k := 4) dc_Condition_init_8 f1_0 rfl (by decide) wd_430 rfl rfl rfl pd_LLock rfl rfl k) ?_
  intro h2 g2 e2
  have f2_1 : h2 n = some (false, 2, [.ref (n + 1), .int 0]) := (e2 _ (by omega)).trans f1_1
  have f2_2 : h2 (n + 1) = some (true, 4, [.null, .null, .null, .null, .null, .null]) := (e2 _ (by omega)).trans f1_2
  have f2_0 : h2 a = some (false, 8, [.int 6, .ref n, .double FP.dconst0, .int 0, .ref l]) := g2
  have w2 : ∀ q, q < n → q ≠ a → h2 q = h q := fun q hq na => (e2 q (by omega)).trans (w1 q hq na)
  exact sx_e (sh_return dc_Condition_init_11 rfl (by decide) (by decide)) ⟨rfl, f2_0, f2_1, f2_2, w2⟩
theorem sx_LockOrder_init {n : Nat} {h : sh_Hp} {a : Nat} (h_a : a < n) (f_a : h a = some (false, 3, [.null, .int 0, .int 0])) : sx_M md_LockOrder_init [.ref a] n h none (fun n' h' => n' = n + 1 ∧ h' a = some (false, 3, [.ref n, .int 0, .int 0]) ∧ h' n = some (true, 0, List.replicate 8 (.int 0)) ∧ ∀ q, q < n → q ≠ a → h' q = h q) := by
  have w0 : ∀ q, q < n → q ≠ a → h q = h q := fun _ _ _ => rfl
  refine sx_p (fun Z k => sh_aload_n dc_LockOrder_init_0 rfl rfl k) ?_
  refine sx_p (fun Z k => sh_obj dc_LockOrder_init_1 wd_146 wd_75 wd_76 (by decide) (by decide) k) ?_
  refine sx_p (fun Z k => sh_aload_n dc_LockOrder_init_4 rfl rfl k) ?_
  refine sx_p (fun Z k => sh_bipush (v := 8) dc_LockOrder_init_5 (by decide) k) ?_
  refine sx_n (o := (true, 0, List.replicate 8 (.int 0))) (fun Z k => sh_newa (N := 8) dc_LockOrder_init_7 rfl (ti := 0) rfl (fun U cA q => q) wd_159 (by decide) (by decide) (by decide) (by decide) (by decide) k) ?_
  intro h1 g1 e1
  have f1_0 : h1 a = some (false, 3, [.null, .int 0, .int 0]) := (e1 _ (by omega)).trans f_a
  have f1_1 : h1 n = some (true, 0, List.replicate 8 (.int 0)) := g1
  have w1 : ∀ q, q < n → q ≠ a → h1 q = h q := fun q hq na => (e1 q (by omega)).trans (w0 q hq na)
  refine sx_o (q := a) (o := (false, 3, [.ref n, .int 0, .int 0])) (fun Z k => sh_putF (k := 0) dc_LockOrder_init_9 f1_0 rfl (by decide) wd_147 rfl rfl rfl pd_AI rfl rfl k) ?_
  intro h2 g2 e2
  have f2_1 : h2 n = some (true, 0, List.replicate 8 (.int 0)) := (e2 _ (by omega)).trans f1_1
  have f2_0 : h2 a = some (false, 3, [.ref n, .int 0, .int 0]) := g2
  have w2 : ∀ q, q < n → q ≠ a → h2 q = h q := fun q hq na => (e2 q (by omega)).trans (w1 q hq na)
  refine sx_p (fun Z k => sh_aload_n dc_LockOrder_init_12 rfl rfl k) ?_
  refine sx_p (fun Z k => sh_iconst (v := 0) dc_LockOrder_init_13 (by decide) k) ?_
  refine sx_o (q := a) (o := (false, 3, [.ref n, .int 0, .int 0])) (fun Z k => sh_put (k := 1) dc_LockOrder_init_14 f2_0 rfl (by decide) fl_LockOrder_15 rfl pd_I rfl rfl k) ?_
  intro h3 g3 e3
  have f3_1 : h3 n = some (true, 0, List.replicate 8 (.int 0)) := (e3 _ (by omega)).trans f2_1
  have f3_0 : h3 a = some (false, 3, [.ref n, .int 0, .int 0]) := g3
  have w3 : ∀ q, q < n → q ≠ a → h3 q = h q := fun q hq na => (e3 q (by omega)).trans (w2 q hq na)
  refine sx_p (fun Z k => sh_aload_n dc_LockOrder_init_17 rfl rfl k) ?_
  refine sx_p (fun Z k => sh_iconst (v := 0) dc_LockOrder_init_18 (by decide) k) ?_
  refine sx_o (q := a) (o := (false, 3, [.ref n, .int 0, .int 0])) (fun Z k => sh_put (k := 2) dc_LockOrder_init_19 f3_0 rfl (by decide) fl_LockOrder_19 rfl pd_I rfl rfl k) ?_
  intro h4 g4 e4
  have f4_1 : h4 n = some (true, 0, List.replicate 8 (.int 0)) := (e4 _ (by omega)).trans f3_1
  have f4_0 : h4 a = some (false, 3, [.ref n, .int 0, .int 0]) := g4
  have w4 : ∀ q, q < n → q ≠ a → h4 q = h q := fun q hq na => (e4 q (by omega)).trans (w3 q hq na)
  exact sx_e (sh_return dc_LockOrder_init_22 rfl (by decide) (by decide)) ⟨rfl, f4_0, f4_1, w4⟩
theorem sx_Hall_init {n : Nat} {h : sh_Hp} {a : Nat} (h_a : a < n) (f_a : h a = some (false, 0, [.null, .null, .null, .int 0, .double FP.dconst0])) : sx_M md_Hall_init [.ref a] n h none (fun n' h' => n' = n + 1 + 1 + 1 + 1 + 1 + 1 + 1 + 1 + 1 + 1 ∧ h' a = some (false, 0, [.ref n, .ref (n + 1 + 1 + 1 + 1 + 1 + 1 + 1), .ref (n + 1 + 1 + 1 + 1 + 1 + 1 + 1 + 1), .int 0, .double FP.dconst0]) ∧ h' n = some (true, 4, [.ref (n + 1), .ref (n + 1 + 1), .ref (n + 1 + 1 + 1), .ref (n + 1 + 1 + 1 + 1), .ref (n + 1 + 1 + 1 + 1 + 1), .ref (n + 1 + 1 + 1 + 1 + 1 + 1)]) ∧ h' (n + 1) = some (false, 1, [.int 0, .double FP.dconst0, .int 0, .int (-1), .null, .int 0, .int 0, .double FP.dconst0, .double FP.dconst0, .int 0, .int 0, .int 0]) ∧ h' (n + 1 + 1) = some (false, 1, [.int 1, .double FP.dconst0, .int 0, .int (-1), .null, .int 0, .int 0, .double FP.dconst0, .double FP.dconst0, .int 0, .int 0, .int 0]) ∧ h' (n + 1 + 1 + 1) = some (false, 1, [.int 2, .double FP.dconst0, .int 0, .int (-1), .null, .int 0, .int 0, .double FP.dconst0, .double FP.dconst0, .int 0, .int 0, .int 0]) ∧ h' (n + 1 + 1 + 1 + 1) = some (false, 1, [.int 3, .double FP.dconst0, .int 0, .int (-1), .null, .int 0, .int 0, .double FP.dconst0, .double FP.dconst0, .int 0, .int 0, .int 0]) ∧ h' (n + 1 + 1 + 1 + 1 + 1) = some (false, 1, [.int 4, .double FP.dconst0, .int 0, .int (-1), .null, .int 0, .int 0, .double FP.dconst0, .double FP.dconst0, .int 0, .int 0, .int 0]) ∧ h' (n + 1 + 1 + 1 + 1 + 1 + 1) = some (false, 1, [.int 5, .double FP.dconst0, .int 0, .int (-1), .null, .int 0, .int 0, .double FP.dconst0, .double FP.dconst0, .int 0, .int 0, .int 0]) ∧ h' (n + 1 + 1 + 1 + 1 + 1 + 1 + 1) = some (true, 5, [.null, .null, .null, .null, .null, .null, .null, .null]) ∧ h' (n + 1 + 1 + 1 + 1 + 1 + 1 + 1 + 1) = some (false, 3, [.ref (n + 1 + 1 + 1 + 1 + 1 + 1 + 1 + 1 + 1), .int 0, .int 0]) ∧ h' (n + 1 + 1 + 1 + 1 + 1 + 1 + 1 + 1 + 1) = some (true, 0, List.replicate 8 (.int 0)) ∧ ∀ q, q < n → q ≠ a → h' q = h q) := by
  have w0 : ∀ q, q < n → q ≠ a → h q = h q := fun _ _ _ => rfl
  refine sx_p (fun Z k => sh_aload_n dc_Hall_init_0 rfl rfl k) ?_
  refine sx_p (fun Z k => sh_obj dc_Hall_init_1 wd_74 wd_75 wd_76 (by decide) (by decide) k) ?_
  refine sx_p (fun Z k => sh_aload_n dc_Hall_init_4 rfl rfl k) ?_
  refine sx_p (fun Z k => sh_bipush (v := 6) dc_Hall_init_5 (by decide) k) ?_
  refine sx_n (o := (true, 4, [.null, .null, .null, .null, .null, .null])) (fun Z k => sh_anew (N := 6) dc_Hall_init_7 (ti := 4) rfl wd_77 wd_78 (by decide) (by decide) (by decide) (by decide) (by decide) k) ?_
  intro h1 g1 e1
  have f1_0 : h1 a = some (false, 0, [.null, .null, .null, .int 0, .double FP.dconst0]) := (e1 _ (by omega)).trans f_a
  have f1_1 : h1 n = some (true, 4, [.null, .null, .null, .null, .null, .null]) := g1
  have w1 : ∀ q, q < n → q ≠ a → h1 q = h q := fun q hq na => (e1 q (by omega)).trans (w0 q hq na)
  refine sx_o (q := a) (o := (false, 0, [.ref n, .null, .null, .int 0, .double FP.dconst0])) (fun Z k => sh_putF (k := 0) dc_Hall_init_10 f1_0 rfl (by decide) wd_160 rfl rfl rfl pd_ALWorker rfl rfl k) ?_
  intro h2 g2 e2
  have f2_1 : h2 n = some (true, 4, [.null, .null, .null, .null, .null, .null]) := (e2 _ (by omega)).trans f1_1
  have f2_0 : h2 a = some (false, 0, [.ref n, .null, .null, .int 0, .double FP.dconst0]) := g2
  have w2 : ∀ q, q < n → q ≠ a → h2 q = h q := fun q hq na => (e2 q (by omega)).trans (w1 q hq na)
  refine sx_p (fun Z k => sh_iconst (v := 0) dc_Hall_init_13 (by decide) k) ?_
  refine sx_p (fun Z k => sh_istore_n dc_Hall_init_14 rfl (by decide) k) ?_
  refine sx_p (fun Z k => sh_iload_n dc_Hall_init_15 rfl rfl k) ?_
  refine sx_p (fun Z k => sh_bipush (v := 6) dc_Hall_init_16 (by decide) k) ?_
  refine sx_p (fun Z k => sh_icmp_ge (tgt := 41) dc_Hall_init_18 (by decide) (fun z => absurd z (by decide)) (fun _ => k)) ?_
  refine sx_p (fun Z k => sh_aload_n dc_Hall_init_21 rfl rfl k) ?_
  refine sx_p (fun Z k => sh_get (k := 0) dc_Hall_init_22 f2_0 rfl (by decide) fl_Hall_11 rfl k) ?_
  refine sx_p (fun Z k => sh_iload_n dc_Hall_init_25 rfl rfl k) ?_
  refine sx_n (o := (false, 1, [.int 0, .double FP.dconst0, .int 0, .int 0, .null, .int 0, .int 0, .double FP.dconst0, .double FP.dconst0, .int 0, .int 0, .int 0])) (fun Z k => sh_new (ty := nt_Worker) dc_Hall_init_26 rfl wd_77 wd_79 wd_50 nt_Worker_p rfl nt_Worker_d (by decide) (by decide) k) ?_
  intro h3 g3 e3
  have f3_0 : h3 a = some (false, 0, [.ref n, .null, .null, .int 0, .double FP.dconst0]) := (e3 _ (by omega)).trans f2_0
  have f3_1 : h3 n = some (true, 4, [.null, .null, .null, .null, .null, .null]) := (e3 _ (by omega)).trans f2_1
  have f3_2 : h3 (n + 1) = some (false, 1, [.int 0, .double FP.dconst0, .int 0, .int 0, .null, .int 0, .int 0, .double FP.dconst0, .double FP.dconst0, .int 0, .int 0, .int 0]) := g3
  have w3 : ∀ q, q < n → q ≠ a → h3 q = h q := fun q hq na => (e3 q (by omega)).trans (w2 q hq na)
  refine sx_p (fun Z k => sh_dup dc_Hall_init_29 rfl k) ?_
  refine sx_p (fun Z k => sh_iload_n dc_Hall_init_30 rfl rfl k) ?_
  refine sx_c (sh_init (As := [.int 0]) dc_Hall_init_31 lm_Worker_init ln_Hall_15 wd_81 rfl rfl rfl rfl (Nat.le_of_ble_eq_true rfl)) (sx_Worker_init (a := n + 1) (i := 0) (n := n + 1 + 1) (h := h3) (by omega) f3_2) ⟨by decide, Nat.le_of_ble_eq_true rfl, by decide, by decide⟩ ?_
  rintro _ h4 ⟨rfl, z4_0, e4⟩
  have f4_0 : h4 a = some (false, 0, [.ref n, .null, .null, .int 0, .double FP.dconst0]) := (e4 _ (by omega) (by omega)).trans f3_0
  have f4_1 : h4 n = some (true, 4, [.null, .null, .null, .null, .null, .null]) := (e4 _ (by omega) (by omega)).trans f3_1
  have f4_2 : h4 (n + 1) = some (false, 1, [.int 0, .double FP.dconst0, .int 0, .int (-1), .null, .int 0, .int 0, .double FP.dconst0, .double FP.dconst0, .int 0, .int 0, .int 0]) := z4_0
  have w4 : ∀ q, q < n → q ≠ a → h4 q = h q := fun q hq na => (e4 q (by omega) (by omega)).trans (w3 q hq na)
  refine sx_o (q := n) (o := (true, 4, [.ref (n + 1), .null, .null, .null, .null, .null])) (fun Z k => sh_aast (i := 0) dc_Hall_init_34 f4_1 rfl (by decide) rfl f4_2 rfl (Or.inl rfl) k) ?_
  intro h5 g5 e5
  have f5_0 : h5 a = some (false, 0, [.ref n, .null, .null, .int 0, .double FP.dconst0]) := (e5 _ (by omega)).trans f4_0
  have f5_2 : h5 (n + 1) = some (false, 1, [.int 0, .double FP.dconst0, .int 0, .int (-1), .null, .int 0, .int 0, .double FP.dconst0, .double FP.dconst0, .int 0, .int 0, .int 0]) := (e5 _ (by omega)).trans f4_2
  have f5_1 : h5 n = some (true, 4, [.ref (n + 1), .null, .null, .null, .null, .null]) := g5
  have w5 : ∀ q, q < n → q ≠ a → h5 q = h q := fun q hq na => (e5 q (by omega)).trans (w4 q hq na)
  refine sx_p (fun Z k => sh_iinc (v := 1) dc_Hall_init_35 rfl (by decide) (by decide) k) ?_
  refine sx_p (fun Z k => sh_goto_ (tgt := 15) dc_Hall_init_38 (by decide) k) ?_
  refine sx_p (fun Z k => sh_iload_n dc_Hall_init_15 rfl rfl k) ?_
  refine sx_p (fun Z k => sh_bipush (v := 6) dc_Hall_init_16 (by decide) k) ?_
  refine sx_p (fun Z k => sh_icmp_ge (tgt := 41) dc_Hall_init_18 (by decide) (fun z => absurd z (by decide)) (fun _ => k)) ?_
  refine sx_p (fun Z k => sh_aload_n dc_Hall_init_21 rfl rfl k) ?_
  refine sx_p (fun Z k => sh_get (k := 0) dc_Hall_init_22 f5_0 rfl (by decide) fl_Hall_11 rfl k) ?_
  refine sx_p (fun Z k => sh_iload_n dc_Hall_init_25 rfl rfl k) ?_
  refine sx_n (o := (false, 1, [.int 0, .double FP.dconst0, .int 0, .int 0, .null, .int 0, .int 0, .double FP.dconst0, .double FP.dconst0, .int 0, .int 0, .int 0])) (fun Z k => sh_new (ty := nt_Worker) dc_Hall_init_26 rfl wd_77 wd_79 wd_50 nt_Worker_p rfl nt_Worker_d (by decide) (by decide) k) ?_
  intro h6 g6 e6
  have f6_0 : h6 a = some (false, 0, [.ref n, .null, .null, .int 0, .double FP.dconst0]) := (e6 _ (by omega)).trans f5_0
  have f6_1 : h6 n = some (true, 4, [.ref (n + 1), .null, .null, .null, .null, .null]) := (e6 _ (by omega)).trans f5_1
  have f6_2 : h6 (n + 1) = some (false, 1, [.int 0, .double FP.dconst0, .int 0, .int (-1), .null, .int 0, .int 0, .double FP.dconst0, .double FP.dconst0, .int 0, .int 0, .int 0]) := (e6 _ (by omega)).trans f5_2
  have f6_3 : h6 (n + 1 + 1) = some (false, 1, [.int 0, .double FP.dconst0, .int 0, .int 0, .null, .int 0, .int 0, .double FP.dconst0, .double FP.dconst0, .int 0, .int 0, .int 0]) := g6
  have w6 : ∀ q, q < n → q ≠ a → h6 q = h q := fun q hq na => (e6 q (by omega)).trans (w5 q hq na)
  refine sx_p (fun Z k => sh_dup dc_Hall_init_29 rfl k) ?_
  refine sx_p (fun Z k => sh_iload_n dc_Hall_init_30 rfl rfl k) ?_
  refine sx_c (sh_init (As := [.int 1]) dc_Hall_init_31 lm_Worker_init ln_Hall_15 wd_81 rfl rfl rfl rfl (Nat.le_of_ble_eq_true rfl)) (sx_Worker_init (a := n + 1 + 1) (i := 1) (n := n + 1 + 1 + 1) (h := h6) (by omega) f6_3) ⟨by decide, Nat.le_of_ble_eq_true rfl, by decide, by decide⟩ ?_
  rintro _ h7 ⟨rfl, z7_0, e7⟩
  have f7_0 : h7 a = some (false, 0, [.ref n, .null, .null, .int 0, .double FP.dconst0]) := (e7 _ (by omega) (by omega)).trans f6_0
  have f7_1 : h7 n = some (true, 4, [.ref (n + 1), .null, .null, .null, .null, .null]) := (e7 _ (by omega) (by omega)).trans f6_1
  have f7_2 : h7 (n + 1) = some (false, 1, [.int 0, .double FP.dconst0, .int 0, .int (-1), .null, .int 0, .int 0, .double FP.dconst0, .double FP.dconst0, .int 0, .int 0, .int 0]) := (e7 _ (by omega) (by omega)).trans f6_2
  have f7_3 : h7 (n + 1 + 1) = some (false, 1, [.int 1, .double FP.dconst0, .int 0, .int (-1), .null, .int 0, .int 0, .double FP.dconst0, .double FP.dconst0, .int 0, .int 0, .int 0]) := z7_0
  have w7 : ∀ q, q < n → q ≠ a → h7 q = h q := fun q hq na => (e7 q (by omega) (by omega)).trans (w6 q hq na)
  refine sx_o (q := n) (o := (true, 4, [.ref (n + 1), .ref (n + 1 + 1), .null, .null, .null, .null])) (fun Z k => sh_aast (i := 1) dc_Hall_init_34 f7_1 rfl (by decide) rfl f7_3 rfl (Or.inl rfl) k) ?_
  intro h8 g8 e8
  have f8_0 : h8 a = some (false, 0, [.ref n, .null, .null, .int 0, .double FP.dconst0]) := (e8 _ (by omega)).trans f7_0
  have f8_2 : h8 (n + 1) = some (false, 1, [.int 0, .double FP.dconst0, .int 0, .int (-1), .null, .int 0, .int 0, .double FP.dconst0, .double FP.dconst0, .int 0, .int 0, .int 0]) := (e8 _ (by omega)).trans f7_2
  have f8_3 : h8 (n + 1 + 1) = some (false, 1, [.int 1, .double FP.dconst0, .int 0, .int (-1), .null, .int 0, .int 0, .double FP.dconst0, .double FP.dconst0, .int 0, .int 0, .int 0]) := (e8 _ (by omega)).trans f7_3
  have f8_1 : h8 n = some (true, 4, [.ref (n + 1), .ref (n + 1 + 1), .null, .null, .null, .null]) := g8
  have w8 : ∀ q, q < n → q ≠ a → h8 q = h q := fun q hq na => (e8 q (by omega)).trans (w7 q hq na)
  refine sx_p (fun Z k => sh_iinc (v := 2) dc_Hall_init_35 rfl (by decide) (by decide) k) ?_
  refine sx_p (fun Z k => sh_goto_ (tgt := 15) dc_Hall_init_38 (by decide) k) ?_
  refine sx_p (fun Z k => sh_iload_n dc_Hall_init_15 rfl rfl k) ?_
  refine sx_p (fun Z k => sh_bipush (v := 6) dc_Hall_init_16 (by decide) k) ?_
  refine sx_p (fun Z k => sh_icmp_ge (tgt := 41) dc_Hall_init_18 (by decide) (fun z => absurd z (by decide)) (fun _ => k)) ?_
  refine sx_p (fun Z k => sh_aload_n dc_Hall_init_21 rfl rfl k) ?_
  refine sx_p (fun Z k => sh_get (k := 0) dc_Hall_init_22 f8_0 rfl (by decide) fl_Hall_11 rfl k) ?_
  refine sx_p (fun Z k => sh_iload_n dc_Hall_init_25 rfl rfl k) ?_
  refine sx_n (o := (false, 1, [.int 0, .double FP.dconst0, .int 0, .int 0, .null, .int 0, .int 0, .double FP.dconst0, .double FP.dconst0, .int 0, .int 0, .int 0])) (fun Z k => sh_new (ty := nt_Worker) dc_Hall_init_26 rfl wd_77 wd_79 wd_50 nt_Worker_p rfl nt_Worker_d (by decide) (by decide) k) ?_
  intro h9 g9 e9
  have f9_0 : h9 a = some (false, 0, [.ref n, .null, .null, .int 0, .double FP.dconst0]) := (e9 _ (by omega)).trans f8_0
  have f9_1 : h9 n = some (true, 4, [.ref (n + 1), .ref (n + 1 + 1), .null, .null, .null, .null]) := (e9 _ (by omega)).trans f8_1
  have f9_2 : h9 (n + 1) = some (false, 1, [.int 0, .double FP.dconst0, .int 0, .int (-1), .null, .int 0, .int 0, .double FP.dconst0, .double FP.dconst0, .int 0, .int 0, .int 0]) := (e9 _ (by omega)).trans f8_2
  have f9_3 : h9 (n + 1 + 1) = some (false, 1, [.int 1, .double FP.dconst0, .int 0, .int (-1), .null, .int 0, .int 0, .double FP.dconst0, .double FP.dconst0, .int 0, .int 0, .int 0]) := (e9 _ (by omega)).trans f8_3
  have f9_4 : h9 (n + 1 + 1 + 1) = some (false, 1, [.int 0, .double FP.dconst0, .int 0, .int 0, .null, .int 0, .int 0, .double FP.dconst0, .double FP.dconst0, .int 0, .int 0, .int 0]) := g9
  have w9 : ∀ q, q < n → q ≠ a → h9 q = h q := fun q hq na => (e9 q (by omega)).trans (w8 q hq na)
  refine sx_p (fun Z k => sh_dup dc_Hall_init_29 rfl k) ?_
  refine sx_p (fun Z k => sh_iload_n dc_Hall_init_30 rfl rfl k) ?_
  refine sx_c (sh_init (As := [.int 2]) dc_Hall_init_31 lm_Worker_init ln_Hall_15 wd_81 rfl rfl rfl rfl (Nat.le_of_ble_eq_true rfl)) (sx_Worker_init (a := n + 1 + 1 + 1) (i := 2) (n := n + 1 + 1 + 1 + 1) (h := h9) (by omega) f9_4) ⟨by decide, Nat.le_of_ble_eq_true rfl, by decide, by decide⟩ ?_
  rintro _ h10 ⟨rfl, z10_0, e10⟩
  have f10_0 : h10 a = some (false, 0, [.ref n, .null, .null, .int 0, .double FP.dconst0]) := (e10 _ (by omega) (by omega)).trans f9_0
  have f10_1 : h10 n = some (true, 4, [.ref (n + 1), .ref (n + 1 + 1), .null, .null, .null, .null]) := (e10 _ (by omega) (by omega)).trans f9_1
  have f10_2 : h10 (n + 1) = some (false, 1, [.int 0, .double FP.dconst0, .int 0, .int (-1), .null, .int 0, .int 0, .double FP.dconst0, .double FP.dconst0, .int 0, .int 0, .int 0]) := (e10 _ (by omega) (by omega)).trans f9_2
  have f10_3 : h10 (n + 1 + 1) = some (false, 1, [.int 1, .double FP.dconst0, .int 0, .int (-1), .null, .int 0, .int 0, .double FP.dconst0, .double FP.dconst0, .int 0, .int 0, .int 0]) := (e10 _ (by omega) (by omega)).trans f9_3
  have f10_4 : h10 (n + 1 + 1 + 1) = some (false, 1, [.int 2, .double FP.dconst0, .int 0, .int (-1), .null, .int 0, .int 0, .double FP.dconst0, .double FP.dconst0, .int 0, .int 0, .int 0]) := z10_0
  have w10 : ∀ q, q < n → q ≠ a → h10 q = h q := fun q hq na => (e10 q (by omega) (by omega)).trans (w9 q hq na)
  refine sx_o (q := n) (o := (true, 4, [.ref (n + 1), .ref (n + 1 + 1), .ref (n + 1 + 1 + 1), .null, .null, .null])) (fun Z k => sh_aast (i := 2) dc_Hall_init_34 f10_1 rfl (by decide) rfl f10_4 rfl (Or.inl rfl) k) ?_
  intro h11 g11 e11
  have f11_0 : h11 a = some (false, 0, [.ref n, .null, .null, .int 0, .double FP.dconst0]) := (e11 _ (by omega)).trans f10_0
  have f11_2 : h11 (n + 1) = some (false, 1, [.int 0, .double FP.dconst0, .int 0, .int (-1), .null, .int 0, .int 0, .double FP.dconst0, .double FP.dconst0, .int 0, .int 0, .int 0]) := (e11 _ (by omega)).trans f10_2
  have f11_3 : h11 (n + 1 + 1) = some (false, 1, [.int 1, .double FP.dconst0, .int 0, .int (-1), .null, .int 0, .int 0, .double FP.dconst0, .double FP.dconst0, .int 0, .int 0, .int 0]) := (e11 _ (by omega)).trans f10_3
  have f11_4 : h11 (n + 1 + 1 + 1) = some (false, 1, [.int 2, .double FP.dconst0, .int 0, .int (-1), .null, .int 0, .int 0, .double FP.dconst0, .double FP.dconst0, .int 0, .int 0, .int 0]) := (e11 _ (by omega)).trans f10_4
  have f11_1 : h11 n = some (true, 4, [.ref (n + 1), .ref (n + 1 + 1), .ref (n + 1 + 1 + 1), .null, .null, .null]) := g11
  have w11 : ∀ q, q < n → q ≠ a → h11 q = h q := fun q hq na => (e11 q (by omega)).trans (w10 q hq na)
  refine sx_p (fun Z k => sh_iinc (v := 3) dc_Hall_init_35 rfl (by decide) (by decide) k) ?_
  refine sx_p (fun Z k => sh_goto_ (tgt := 15) dc_Hall_init_38 (by decide) k) ?_
  refine sx_p (fun Z k => sh_iload_n dc_Hall_init_15 rfl rfl k) ?_
  refine sx_p (fun Z k => sh_bipush (v := 6) dc_Hall_init_16 (by decide) k) ?_
  refine sx_p (fun Z k => sh_icmp_ge (tgt := 41) dc_Hall_init_18 (by decide) (fun z => absurd z (by decide)) (fun _ => k)) ?_
  refine sx_p (fun Z k => sh_aload_n dc_Hall_init_21 rfl rfl k) ?_
  refine sx_p (fun Z k => sh_get (k := 0) dc_Hall_init_22 f11_0 rfl (by decide) fl_Hall_11 rfl k) ?_
  refine sx_p (fun Z k => sh_iload_n dc_Hall_init_25 rfl rfl k) ?_
  refine sx_n (o := (false, 1, [.int 0, .double FP.dconst0, .int 0, .int 0, .null, .int 0, .int 0, .double FP.dconst0, .double FP.dconst0, .int 0, .int 0, .int 0])) (fun Z k => sh_new (ty := nt_Worker) dc_Hall_init_26 rfl wd_77 wd_79 wd_50 nt_Worker_p rfl nt_Worker_d (by decide) (by decide) k) ?_
  intro h12 g12 e12
  have f12_0 : h12 a = some (false, 0, [.ref n, .null, .null, .int 0, .double FP.dconst0]) := (e12 _ (by omega)).trans f11_0
  have f12_1 : h12 n = some (true, 4, [.ref (n + 1), .ref (n + 1 + 1), .ref (n + 1 + 1 + 1), .null, .null, .null]) := (e12 _ (by omega)).trans f11_1
  have f12_2 : h12 (n + 1) = some (false, 1, [.int 0, .double FP.dconst0, .int 0, .int (-1), .null, .int 0, .int 0, .double FP.dconst0, .double FP.dconst0, .int 0, .int 0, .int 0]) := (e12 _ (by omega)).trans f11_2
  have f12_3 : h12 (n + 1 + 1) = some (false, 1, [.int 1, .double FP.dconst0, .int 0, .int (-1), .null, .int 0, .int 0, .double FP.dconst0, .double FP.dconst0, .int 0, .int 0, .int 0]) := (e12 _ (by omega)).trans f11_3
  have f12_4 : h12 (n + 1 + 1 + 1) = some (false, 1, [.int 2, .double FP.dconst0, .int 0, .int (-1), .null, .int 0, .int 0, .double FP.dconst0, .double FP.dconst0, .int 0, .int 0, .int 0]) := (e12 _ (by omega)).trans f11_4
  have f12_5 : h12 (n + 1 + 1 + 1 + 1) = some (false, 1, [.int 0, .double FP.dconst0, .int 0, .int 0, .null, .int 0, .int 0, .double FP.dconst0, .double FP.dconst0, .int 0, .int 0, .int 0]) := g12
  have w12 : ∀ q, q < n → q ≠ a → h12 q = h q := fun q hq na => (e12 q (by omega)).trans (w11 q hq na)
  refine sx_p (fun Z k => sh_dup dc_Hall_init_29 rfl k) ?_
  refine sx_p (fun Z k => sh_iload_n dc_Hall_init_30 rfl rfl k) ?_
  refine sx_c (sh_init (As := [.int 3]) dc_Hall_init_31 lm_Worker_init ln_Hall_15 wd_81 rfl rfl rfl rfl (Nat.le_of_ble_eq_true rfl)) (sx_Worker_init (a := n + 1 + 1 + 1 + 1) (i := 3) (n := n + 1 + 1 + 1 + 1 + 1) (h := h12) (by omega) f12_5) ⟨by decide, Nat.le_of_ble_eq_true rfl, by decide, by decide⟩ ?_
  rintro _ h13 ⟨rfl, z13_0, e13⟩
  have f13_0 : h13 a = some (false, 0, [.ref n, .null, .null, .int 0, .double FP.dconst0]) := (e13 _ (by omega) (by omega)).trans f12_0
  have f13_1 : h13 n = some (true, 4, [.ref (n + 1), .ref (n + 1 + 1), .ref (n + 1 + 1 + 1), .null, .null, .null]) := (e13 _ (by omega) (by omega)).trans f12_1
  have f13_2 : h13 (n + 1) = some (false, 1, [.int 0, .double FP.dconst0, .int 0, .int (-1), .null, .int 0, .int 0, .double FP.dconst0, .double FP.dconst0, .int 0, .int 0, .int 0]) := (e13 _ (by omega) (by omega)).trans f12_2
  have f13_3 : h13 (n + 1 + 1) = some (false, 1, [.int 1, .double FP.dconst0, .int 0, .int (-1), .null, .int 0, .int 0, .double FP.dconst0, .double FP.dconst0, .int 0, .int 0, .int 0]) := (e13 _ (by omega) (by omega)).trans f12_3
  have f13_4 : h13 (n + 1 + 1 + 1) = some (false, 1, [.int 2, .double FP.dconst0, .int 0, .int (-1), .null, .int 0, .int 0, .double FP.dconst0, .double FP.dconst0, .int 0, .int 0, .int 0]) := (e13 _ (by omega) (by omega)).trans f12_4
  have f13_5 : h13 (n + 1 + 1 + 1 + 1) = some (false, 1, [.int 3, .double FP.dconst0, .int 0, .int (-1), .null, .int 0, .int 0, .double FP.dconst0, .double FP.dconst0, .int 0, .int 0, .int 0]) := z13_0
  have w13 : ∀ q, q < n → q ≠ a → h13 q = h q := fun q hq na => (e13 q (by omega) (by omega)).trans (w12 q hq na)
  refine sx_o (q := n) (o := (true, 4, [.ref (n + 1), .ref (n + 1 + 1), .ref (n + 1 + 1 + 1), .ref (n + 1 + 1 + 1 + 1), .null, .null])) (fun Z k => sh_aast (i := 3) dc_Hall_init_34 f13_1 rfl (by decide) rfl f13_5 rfl (Or.inl rfl) k) ?_
  intro h14 g14 e14
  have f14_0 : h14 a = some (false, 0, [.ref n, .null, .null, .int 0, .double FP.dconst0]) := (e14 _ (by omega)).trans f13_0
  have f14_2 : h14 (n + 1) = some (false, 1, [.int 0, .double FP.dconst0, .int 0, .int (-1), .null, .int 0, .int 0, .double FP.dconst0, .double FP.dconst0, .int 0, .int 0, .int 0]) := (e14 _ (by omega)).trans f13_2
  have f14_3 : h14 (n + 1 + 1) = some (false, 1, [.int 1, .double FP.dconst0, .int 0, .int (-1), .null, .int 0, .int 0, .double FP.dconst0, .double FP.dconst0, .int 0, .int 0, .int 0]) := (e14 _ (by omega)).trans f13_3
  have f14_4 : h14 (n + 1 + 1 + 1) = some (false, 1, [.int 2, .double FP.dconst0, .int 0, .int (-1), .null, .int 0, .int 0, .double FP.dconst0, .double FP.dconst0, .int 0, .int 0, .int 0]) := (e14 _ (by omega)).trans f13_4
  have f14_5 : h14 (n + 1 + 1 + 1 + 1) = some (false, 1, [.int 3, .double FP.dconst0, .int 0, .int (-1), .null, .int 0, .int 0, .double FP.dconst0, .double FP.dconst0, .int 0, .int 0, .int 0]) := (e14 _ (by omega)).trans f13_5
  have f14_1 : h14 n = some (true, 4, [.ref (n + 1), .ref (n + 1 + 1), .ref (n + 1 + 1 + 1), .ref (n + 1 + 1 + 1 + 1), .null, .null]) := g14
  have w14 : ∀ q, q < n → q ≠ a → h14 q = h q := fun q hq na => (e14 q (by omega)).trans (w13 q hq na)
  refine sx_p (fun Z k => sh_iinc (v := 4) dc_Hall_init_35 rfl (by decide) (by decide) k) ?_
  refine sx_p (fun Z k => sh_goto_ (tgt := 15) dc_Hall_init_38 (by decide) k) ?_
  refine sx_p (fun Z k => sh_iload_n dc_Hall_init_15 rfl rfl k) ?_
  refine sx_p (fun Z k => sh_bipush (v := 6) dc_Hall_init_16 (by decide) k) ?_
  refine sx_p (fun Z k => sh_icmp_ge (tgt := 41) dc_Hall_init_18 (by decide) (fun z => absurd z (by decide)) (fun _ => k)) ?_
  refine sx_p (fun Z k => sh_aload_n dc_Hall_init_21 rfl rfl k) ?_
  refine sx_p (fun Z k => sh_get (k := 0) dc_Hall_init_22 f14_0 rfl (by decide) fl_Hall_11 rfl k) ?_
  refine sx_p (fun Z k => sh_iload_n dc_Hall_init_25 rfl rfl k) ?_
  refine sx_n (o := (false, 1, [.int 0, .double FP.dconst0, .int 0, .int 0, .null, .int 0, .int 0, .double FP.dconst0, .double FP.dconst0, .int 0, .int 0, .int 0])) (fun Z k => sh_new (ty := nt_Worker) dc_Hall_init_26 rfl wd_77 wd_79 wd_50 nt_Worker_p rfl nt_Worker_d (by decide) (by decide) k) ?_
  intro h15 g15 e15
  have f15_0 : h15 a = some (false, 0, [.ref n, .null, .null, .int 0, .double FP.dconst0]) := (e15 _ (by omega)).trans f14_0
  have f15_1 : h15 n = some (true, 4, [.ref (n + 1), .ref (n + 1 + 1), .ref (n + 1 + 1 + 1), .ref (n + 1 + 1 + 1 + 1), .null, .null]) := (e15 _ (by omega)).trans f14_1
  have f15_2 : h15 (n + 1) = some (false, 1, [.int 0, .double FP.dconst0, .int 0, .int (-1), .null, .int 0, .int 0, .double FP.dconst0, .double FP.dconst0, .int 0, .int 0, .int 0]) := (e15 _ (by omega)).trans f14_2
  have f15_3 : h15 (n + 1 + 1) = some (false, 1, [.int 1, .double FP.dconst0, .int 0, .int (-1), .null, .int 0, .int 0, .double FP.dconst0, .double FP.dconst0, .int 0, .int 0, .int 0]) := (e15 _ (by omega)).trans f14_3
  have f15_4 : h15 (n + 1 + 1 + 1) = some (false, 1, [.int 2, .double FP.dconst0, .int 0, .int (-1), .null, .int 0, .int 0, .double FP.dconst0, .double FP.dconst0, .int 0, .int 0, .int 0]) := (e15 _ (by omega)).trans f14_4
  have f15_5 : h15 (n + 1 + 1 + 1 + 1) = some (false, 1, [.int 3, .double FP.dconst0, .int 0, .int (-1), .null, .int 0, .int 0, .double FP.dconst0, .double FP.dconst0, .int 0, .int 0, .int 0]) := (e15 _ (by omega)).trans f14_5
  have f15_6 : h15 (n + 1 + 1 + 1 + 1 + 1) = some (false, 1, [.int 0, .double FP.dconst0, .int 0, .int 0, .null, .int 0, .int 0, .double FP.dconst0, .double FP.dconst0, .int 0, .int 0, .int 0]) := g15
  have w15 : ∀ q, q < n → q ≠ a → h15 q = h q := fun q hq na => (e15 q (by omega)).trans (w14 q hq na)
  refine sx_p (fun Z k => sh_dup dc_Hall_init_29 rfl k) ?_
  refine sx_p (fun Z k => sh_iload_n dc_Hall_init_30 rfl rfl k) ?_
  refine sx_c (sh_init (As := [.int 4]) dc_Hall_init_31 lm_Worker_init ln_Hall_15 wd_81 rfl rfl rfl rfl (Nat.le_of_ble_eq_true rfl)) (sx_Worker_init (a := n + 1 + 1 + 1 + 1 + 1) (i := 4) (n := n + 1 + 1 + 1 + 1 + 1 + 1) (h := h15) (by omega) f15_6) ⟨by decide, Nat.le_of_ble_eq_true rfl, by decide, by decide⟩ ?_
  rintro _ h16 ⟨rfl, z16_0, e16⟩
  have f16_0 : h16 a = some (false, 0, [.ref n, .null, .null, .int 0, .double FP.dconst0]) := (e16 _ (by omega) (by omega)).trans f15_0
  have f16_1 : h16 n = some (true, 4, [.ref (n + 1), .ref (n + 1 + 1), .ref (n + 1 + 1 + 1), .ref (n + 1 + 1 + 1 + 1), .null, .null]) := (e16 _ (by omega) (by omega)).trans f15_1
  have f16_2 : h16 (n + 1) = some (false, 1, [.int 0, .double FP.dconst0, .int 0, .int (-1), .null, .int 0, .int 0, .double FP.dconst0, .double FP.dconst0, .int 0, .int 0, .int 0]) := (e16 _ (by omega) (by omega)).trans f15_2
  have f16_3 : h16 (n + 1 + 1) = some (false, 1, [.int 1, .double FP.dconst0, .int 0, .int (-1), .null, .int 0, .int 0, .double FP.dconst0, .double FP.dconst0, .int 0, .int 0, .int 0]) := (e16 _ (by omega) (by omega)).trans f15_3
  have f16_4 : h16 (n + 1 + 1 + 1) = some (false, 1, [.int 2, .double FP.dconst0, .int 0, .int (-1), .null, .int 0, .int 0, .double FP.dconst0, .double FP.dconst0, .int 0, .int 0, .int 0]) := (e16 _ (by omega) (by omega)).trans f15_4
  have f16_5 : h16 (n + 1 + 1 + 1 + 1) = some (false, 1, [.int 3, .double FP.dconst0, .int 0, .int (-1), .null, .int 0, .int 0, .double FP.dconst0, .double FP.dconst0, .int 0, .int 0, .int 0]) := (e16 _ (by omega) (by omega)).trans f15_5
  have f16_6 : h16 (n + 1 + 1 + 1 + 1 + 1) = some (false, 1, [.int 4, .double FP.dconst0, .int 0, .int (-1), .null, .int 0, .int 0, .double FP.dconst0, .double FP.dconst0, .int 0, .int 0, .int 0]) := z16_0
  have w16 : ∀ q, q < n → q ≠ a → h16 q = h q := fun q hq na => (e16 q (by omega) (by omega)).trans (w15 q hq na)
  refine sx_o (q := n) (o := (true, 4, [.ref (n + 1), .ref (n + 1 + 1), .ref (n + 1 + 1 + 1), .ref (n + 1 + 1 + 1 + 1), .ref (n + 1 + 1 + 1 + 1 + 1), .null])) (fun Z k => sh_aast (i := 4) dc_Hall_init_34 f16_1 rfl (by decide) rfl f16_6 rfl (Or.inl rfl) k) ?_
  intro h17 g17 e17
  have f17_0 : h17 a = some (false, 0, [.ref n, .null, .null, .int 0, .double FP.dconst0]) := (e17 _ (by omega)).trans f16_0
  have f17_2 : h17 (n + 1) = some (false, 1, [.int 0, .double FP.dconst0, .int 0, .int (-1), .null, .int 0, .int 0, .double FP.dconst0, .double FP.dconst0, .int 0, .int 0, .int 0]) := (e17 _ (by omega)).trans f16_2
  have f17_3 : h17 (n + 1 + 1) = some (false, 1, [.int 1, .double FP.dconst0, .int 0, .int (-1), .null, .int 0, .int 0, .double FP.dconst0, .double FP.dconst0, .int 0, .int 0, .int 0]) := (e17 _ (by omega)).trans f16_3
  have f17_4 : h17 (n + 1 + 1 + 1) = some (false, 1, [.int 2, .double FP.dconst0, .int 0, .int (-1), .null, .int 0, .int 0, .double FP.dconst0, .double FP.dconst0, .int 0, .int 0, .int 0]) := (e17 _ (by omega)).trans f16_4
  have f17_5 : h17 (n + 1 + 1 + 1 + 1) = some (false, 1, [.int 3, .double FP.dconst0, .int 0, .int (-1), .null, .int 0, .int 0, .double FP.dconst0, .double FP.dconst0, .int 0, .int 0, .int 0]) := (e17 _ (by omega)).trans f16_5
  have f17_6 : h17 (n + 1 + 1 + 1 + 1 + 1) = some (false, 1, [.int 4, .double FP.dconst0, .int 0, .int (-1), .null, .int 0, .int 0, .double FP.dconst0, .double FP.dconst0, .int 0, .int 0, .int 0]) := (e17 _ (by omega)).trans f16_6
  have f17_1 : h17 n = some (true, 4, [.ref (n + 1), .ref (n + 1 + 1), .ref (n + 1 + 1 + 1), .ref (n + 1 + 1 + 1 + 1), .ref (n + 1 + 1 + 1 + 1 + 1), .null]) := g17
  have w17 : ∀ q, q < n → q ≠ a → h17 q = h q := fun q hq na => (e17 q (by omega)).trans (w16 q hq na)
  refine sx_p (fun Z k => sh_iinc (v := 5) dc_Hall_init_35 rfl (by decide) (by decide) k) ?_
  refine sx_p (fun Z k => sh_goto_ (tgt := 15) dc_Hall_init_38 (by decide) k) ?_
  refine sx_p (fun Z k => sh_iload_n dc_Hall_init_15 rfl rfl k) ?_
  refine sx_p (fun Z k => sh_bipush (v := 6) dc_Hall_init_16 (by decide) k) ?_
  refine sx_p (fun Z k => sh_icmp_ge (tgt := 41) dc_Hall_init_18 (by decide) (fun z => absurd z (by decide)) (fun _ => k)) ?_
  refine sx_p (fun Z k => sh_aload_n dc_Hall_init_21 rfl rfl k) ?_
  refine sx_p (fun Z k => sh_get (k := 0) dc_Hall_init_22 f17_0 rfl (by decide) fl_Hall_11 rfl k) ?_
  refine sx_p (fun Z k => sh_iload_n dc_Hall_init_25 rfl rfl k) ?_
  refine sx_n (o := (false, 1, [.int 0, .double FP.dconst0, .int 0, .int 0, .null, .int 0, .int 0, .double FP.dconst0, .double FP.dconst0, .int 0, .int 0, .int 0])) (fun Z k => sh_new (ty := nt_Worker) dc_Hall_init_26 rfl wd_77 wd_79 wd_50 nt_Worker_p rfl nt_Worker_d (by decide) (by decide) k) ?_
  intro h18 g18 e18
  have f18_0 : h18 a = some (false, 0, [.ref n, .null, .null, .int 0, .double FP.dconst0]) := (e18 _ (by omega)).trans f17_0
  have f18_1 : h18 n = some (true, 4, [.ref (n + 1), .ref (n + 1 + 1), .ref (n + 1 + 1 + 1), .ref (n + 1 + 1 + 1 + 1), .ref (n + 1 + 1 + 1 + 1 + 1), .null]) := (e18 _ (by omega)).trans f17_1
  have f18_2 : h18 (n + 1) = some (false, 1, [.int 0, .double FP.dconst0, .int 0, .int (-1), .null, .int 0, .int 0, .double FP.dconst0, .double FP.dconst0, .int 0, .int 0, .int 0]) := (e18 _ (by omega)).trans f17_2
  have f18_3 : h18 (n + 1 + 1) = some (false, 1, [.int 1, .double FP.dconst0, .int 0, .int (-1), .null, .int 0, .int 0, .double FP.dconst0, .double FP.dconst0, .int 0, .int 0, .int 0]) := (e18 _ (by omega)).trans f17_3
  have f18_4 : h18 (n + 1 + 1 + 1) = some (false, 1, [.int 2, .double FP.dconst0, .int 0, .int (-1), .null, .int 0, .int 0, .double FP.dconst0, .double FP.dconst0, .int 0, .int 0, .int 0]) := (e18 _ (by omega)).trans f17_4
  have f18_5 : h18 (n + 1 + 1 + 1 + 1) = some (false, 1, [.int 3, .double FP.dconst0, .int 0, .int (-1), .null, .int 0, .int 0, .double FP.dconst0, .double FP.dconst0, .int 0, .int 0, .int 0]) := (e18 _ (by omega)).trans f17_5
  have f18_6 : h18 (n + 1 + 1 + 1 + 1 + 1) = some (false, 1, [.int 4, .double FP.dconst0, .int 0, .int (-1), .null, .int 0, .int 0, .double FP.dconst0, .double FP.dconst0, .int 0, .int 0, .int 0]) := (e18 _ (by omega)).trans f17_6
  have f18_7 : h18 (n + 1 + 1 + 1 + 1 + 1 + 1) = some (false, 1, [.int 0, .double FP.dconst0, .int 0, .int 0, .null, .int 0, .int 0, .double FP.dconst0, .double FP.dconst0, .int 0, .int 0, .int 0]) := g18
  have w18 : ∀ q, q < n → q ≠ a → h18 q = h q := fun q hq na => (e18 q (by omega)).trans (w17 q hq na)
  refine sx_p (fun Z k => sh_dup dc_Hall_init_29 rfl k) ?_
  refine sx_p (fun Z k => sh_iload_n dc_Hall_init_30 rfl rfl k) ?_
  refine sx_c (sh_init (As := [.int 5]) dc_Hall_init_31 lm_Worker_init ln_Hall_15 wd_81 rfl rfl rfl rfl (Nat.le_of_ble_eq_true rfl)) (sx_Worker_init (a := n + 1 + 1 + 1 + 1 + 1 + 1) (i := 5) (n := n + 1 + 1 + 1 + 1 + 1 + 1 + 1) (h := h18) (by omega) f18_7) ⟨by decide, Nat.le_of_ble_eq_true rfl, by decide, by decide⟩ ?_
  rintro _ h19 ⟨rfl, z19_0, e19⟩
  have f19_0 : h19 a = some (false, 0, [.ref n, .null, .null, .int 0, .double FP.dconst0]) := (e19 _ (by omega) (by omega)).trans f18_0
  have f19_1 : h19 n = some (true, 4, [.ref (n + 1), .ref (n + 1 + 1), .ref (n + 1 + 1 + 1), .ref (n + 1 + 1 + 1 + 1), .ref (n + 1 + 1 + 1 + 1 + 1), .null]) := (e19 _ (by omega) (by omega)).trans f18_1
  have f19_2 : h19 (n + 1) = some (false, 1, [.int 0, .double FP.dconst0, .int 0, .int (-1), .null, .int 0, .int 0, .double FP.dconst0, .double FP.dconst0, .int 0, .int 0, .int 0]) := (e19 _ (by omega) (by omega)).trans f18_2
  have f19_3 : h19 (n + 1 + 1) = some (false, 1, [.int 1, .double FP.dconst0, .int 0, .int (-1), .null, .int 0, .int 0, .double FP.dconst0, .double FP.dconst0, .int 0, .int 0, .int 0]) := (e19 _ (by omega) (by omega)).trans f18_3
  have f19_4 : h19 (n + 1 + 1 + 1) = some (false, 1, [.int 2, .double FP.dconst0, .int 0, .int (-1), .null, .int 0, .int 0, .double FP.dconst0, .double FP.dconst0, .int 0, .int 0, .int 0]) := (e19 _ (by omega) (by omega)).trans f18_4
  have f19_5 : h19 (n + 1 + 1 + 1 + 1) = some (false, 1, [.int 3, .double FP.dconst0, .int 0, .int (-1), .null, .int 0, .int 0, .double FP.dconst0, .double FP.dconst0, .int 0, .int 0, .int 0]) := (e19 _ (by omega) (by omega)).trans f18_5
  have f19_6 : h19 (n + 1 + 1 + 1 + 1 + 1) = some (false, 1, [.int 4, .double FP.dconst0, .int 0, .int (-1), .null, .int 0, .int 0, .double FP.dconst0, .double FP.dconst0, .int 0, .int 0, .int 0]) := (e19 _ (by omega) (by omega)).trans f18_6
  have f19_7 : h19 (n + 1 + 1 + 1 + 1 + 1 + 1) = some (false, 1, [.int 5, .double FP.dconst0, .int 0, .int (-1), .null, .int 0, .int 0, .double FP.dconst0, .double FP.dconst0, .int 0, .int 0, .int 0]) := z19_0
  have w19 : ∀ q, q < n → q ≠ a → h19 q = h q := fun q hq na => (e19 q (by omega) (by omega)).trans (w18 q hq na)
  refine sx_o (q := n) (o := (true, 4, [.ref (n + 1), .ref (n + 1 + 1), .ref (n + 1 + 1 + 1), .ref (n + 1 + 1 + 1 + 1), .ref (n + 1 + 1 + 1 + 1 + 1), .ref (n + 1 + 1 + 1 + 1 + 1 + 1)])) (fun Z k => sh_aast (i := 5) dc_Hall_init_34 f19_1 rfl (by decide) rfl f19_7 rfl (Or.inl rfl) k) ?_
  intro h20 g20 e20
  have f20_0 : h20 a = some (false, 0, [.ref n, .null, .null, .int 0, .double FP.dconst0]) := (e20 _ (by omega)).trans f19_0
  have f20_2 : h20 (n + 1) = some (false, 1, [.int 0, .double FP.dconst0, .int 0, .int (-1), .null, .int 0, .int 0, .double FP.dconst0, .double FP.dconst0, .int 0, .int 0, .int 0]) := (e20 _ (by omega)).trans f19_2
  have f20_3 : h20 (n + 1 + 1) = some (false, 1, [.int 1, .double FP.dconst0, .int 0, .int (-1), .null, .int 0, .int 0, .double FP.dconst0, .double FP.dconst0, .int 0, .int 0, .int 0]) := (e20 _ (by omega)).trans f19_3
  have f20_4 : h20 (n + 1 + 1 + 1) = some (false, 1, [.int 2, .double FP.dconst0, .int 0, .int (-1), .null, .int 0, .int 0, .double FP.dconst0, .double FP.dconst0, .int 0, .int 0, .int 0]) := (e20 _ (by omega)).trans f19_4
  have f20_5 : h20 (n + 1 + 1 + 1 + 1) = some (false, 1, [.int 3, .double FP.dconst0, .int 0, .int (-1), .null, .int 0, .int 0, .double FP.dconst0, .double FP.dconst0, .int 0, .int 0, .int 0]) := (e20 _ (by omega)).trans f19_5
  have f20_6 : h20 (n + 1 + 1 + 1 + 1 + 1) = some (false, 1, [.int 4, .double FP.dconst0, .int 0, .int (-1), .null, .int 0, .int 0, .double FP.dconst0, .double FP.dconst0, .int 0, .int 0, .int 0]) := (e20 _ (by omega)).trans f19_6
  have f20_7 : h20 (n + 1 + 1 + 1 + 1 + 1 + 1) = some (false, 1, [.int 5, .double FP.dconst0, .int 0, .int (-1), .null, .int 0, .int 0, .double FP.dconst0, .double FP.dconst0, .int 0, .int 0, .int 0]) := (e20 _ (by omega)).trans f19_7
  have f20_1 : h20 n = some (true, 4, [.ref (n + 1), .ref (n + 1 + 1), .ref (n + 1 + 1 + 1), .ref (n + 1 + 1 + 1 + 1), .ref (n + 1 + 1 + 1 + 1 + 1), .ref (n + 1 + 1 + 1 + 1 + 1 + 1)]) := g20
  have w20 : ∀ q, q < n → q ≠ a → h20 q = h q := fun q hq na => (e20 q (by omega)).trans (w19 q hq na)
  refine sx_p (fun Z k => sh_iinc (v := 6) dc_Hall_init_35 rfl (by decide) (by decide) k) ?_
  refine sx_p (fun Z k => sh_goto_ (tgt := 15) dc_Hall_init_38 (by decide) k) ?_
  refine sx_p (fun Z k => sh_iload_n dc_Hall_init_15 rfl rfl k) ?_
  refine sx_p (fun Z k => sh_bipush (v := 6) dc_Hall_init_16 (by decide) k) ?_
  refine sx_p (fun Z k => sh_icmp_ge (tgt := 41) dc_Hall_init_18 (by decide) (fun _ => k) (fun z => absurd (by decide) z)) ?_
  refine sx_p (fun Z k => sh_aload_n dc_Hall_init_41 rfl rfl k) ?_
  refine sx_p (fun Z k => sh_bipush (v := 8) dc_Hall_init_42 (by decide) k) ?_
  refine sx_n (o := (true, 5, [.null, .null, .null, .null, .null, .null, .null, .null])) (fun Z k => sh_anew (N := 8) dc_Hall_init_44 (ti := 5) rfl wd_139 wd_140 (by decide) (by decide) (by decide) (by decide) (by decide) k) ?_
  intro h21 g21 e21
  have f21_0 : h21 a = some (false, 0, [.ref n, .null, .null, .int 0, .double FP.dconst0]) := (e21 _ (by omega)).trans f20_0
  have f21_1 : h21 n = some (true, 4, [.ref (n + 1), .ref (n + 1 + 1), .ref (n + 1 + 1 + 1), .ref (n + 1 + 1 + 1 + 1), .ref (n + 1 + 1 + 1 + 1 + 1), .ref (n + 1 + 1 + 1 + 1 + 1 + 1)]) := (e21 _ (by omega)).trans f20_1
  have f21_2 : h21 (n + 1) = some (false, 1, [.int 0, .double FP.dconst0, .int 0, .int (-1), .null, .int 0, .int 0, .double FP.dconst0, .double FP.dconst0, .int 0, .int 0, .int 0]) := (e21 _ (by omega)).trans f20_2
  have f21_3 : h21 (n + 1 + 1) = some (false, 1, [.int 1, .double FP.dconst0, .int 0, .int (-1), .null, .int 0, .int 0, .double FP.dconst0, .double FP.dconst0, .int 0, .int 0, .int 0]) := (e21 _ (by omega)).trans f20_3
  have f21_4 : h21 (n + 1 + 1 + 1) = some (false, 1, [.int 2, .double FP.dconst0, .int 0, .int (-1), .null, .int 0, .int 0, .double FP.dconst0, .double FP.dconst0, .int 0, .int 0, .int 0]) := (e21 _ (by omega)).trans f20_4
  have f21_5 : h21 (n + 1 + 1 + 1 + 1) = some (false, 1, [.int 3, .double FP.dconst0, .int 0, .int (-1), .null, .int 0, .int 0, .double FP.dconst0, .double FP.dconst0, .int 0, .int 0, .int 0]) := (e21 _ (by omega)).trans f20_5
  have f21_6 : h21 (n + 1 + 1 + 1 + 1 + 1) = some (false, 1, [.int 4, .double FP.dconst0, .int 0, .int (-1), .null, .int 0, .int 0, .double FP.dconst0, .double FP.dconst0, .int 0, .int 0, .int 0]) := (e21 _ (by omega)).trans f20_6
  have f21_7 : h21 (n + 1 + 1 + 1 + 1 + 1 + 1) = some (false, 1, [.int 5, .double FP.dconst0, .int 0, .int (-1), .null, .int 0, .int 0, .double FP.dconst0, .double FP.dconst0, .int 0, .int 0, .int 0]) := (e21 _ (by omega)).trans f20_7
  have f21_8 : h21 (n + 1 + 1 + 1 + 1 + 1 + 1 + 1) = some (true, 5, [.null, .null, .null, .null, .null, .null, .null, .null]) := g21
  have w21 : ∀ q, q < n → q ≠ a → h21 q = h q := fun q hq na => (e21 q (by omega)).trans (w20 q hq na)
  refine sx_o (q := a) (o := (false, 0, [.ref n, .ref (n + 1 + 1 + 1 + 1 + 1 + 1 + 1), .null, .int 0, .double FP.dconst0])) (fun Z k => sh_putF (k := 1) dc_Hall_init_47 f21_0 rfl (by decide) wd_161 rfl rfl rfl pd_ALSync rfl rfl k) ?_
  intro h22 g22 e22
  have f22_1 : h22 n = some (true, 4, [.ref (n + 1), .ref (n + 1 + 1), .ref (n + 1 + 1 + 1), .ref (n + 1 + 1 + 1 + 1), .ref (n + 1 + 1 + 1 + 1 + 1), .ref (n + 1 + 1 + 1 + 1 + 1 + 1)]) := (e22 _ (by omega)).trans f21_1
  have f22_2 : h22 (n + 1) = some (false, 1, [.int 0, .double FP.dconst0, .int 0, .int (-1), .null, .int 0, .int 0, .double FP.dconst0, .double FP.dconst0, .int 0, .int 0, .int 0]) := (e22 _ (by omega)).trans f21_2
  have f22_3 : h22 (n + 1 + 1) = some (false, 1, [.int 1, .double FP.dconst0, .int 0, .int (-1), .null, .int 0, .int 0, .double FP.dconst0, .double FP.dconst0, .int 0, .int 0, .int 0]) := (e22 _ (by omega)).trans f21_3
  have f22_4 : h22 (n + 1 + 1 + 1) = some (false, 1, [.int 2, .double FP.dconst0, .int 0, .int (-1), .null, .int 0, .int 0, .double FP.dconst0, .double FP.dconst0, .int 0, .int 0, .int 0]) := (e22 _ (by omega)).trans f21_4
  have f22_5 : h22 (n + 1 + 1 + 1 + 1) = some (false, 1, [.int 3, .double FP.dconst0, .int 0, .int (-1), .null, .int 0, .int 0, .double FP.dconst0, .double FP.dconst0, .int 0, .int 0, .int 0]) := (e22 _ (by omega)).trans f21_5
  have f22_6 : h22 (n + 1 + 1 + 1 + 1 + 1) = some (false, 1, [.int 4, .double FP.dconst0, .int 0, .int (-1), .null, .int 0, .int 0, .double FP.dconst0, .double FP.dconst0, .int 0, .int 0, .int 0]) := (e22 _ (by omega)).trans f21_6
  have f22_7 : h22 (n + 1 + 1 + 1 + 1 + 1 + 1) = some (false, 1, [.int 5, .double FP.dconst0, .int 0, .int (-1), .null, .int 0, .int 0, .double FP.dconst0, .double FP.dconst0, .int 0, .int 0, .int 0]) := (e22 _ (by omega)).trans f21_7
  have f22_8 : h22 (n + 1 + 1 + 1 + 1 + 1 + 1 + 1) = some (true, 5, [.null, .null, .null, .null, .null, .null, .null, .null]) := (e22 _ (by omega)).trans f21_8
  have f22_0 : h22 a = some (false, 0, [.ref n, .ref (n + 1 + 1 + 1 + 1 + 1 + 1 + 1), .null, .int 0, .double FP.dconst0]) := g22
  have w22 : ∀ q, q < n → q ≠ a → h22 q = h q := fun q hq na => (e22 q (by omega)).trans (w21 q hq na)
  refine sx_p (fun Z k => sh_aload_n dc_Hall_init_50 rfl rfl k) ?_
  refine sx_n (o := (false, 3, [.null, .int 0, .int 0])) (fun Z k => sh_new (ty := nt_LockOrder) dc_Hall_init_51 rfl wd_141 wd_142 wd_51 nt_LockOrder_p rfl nt_LockOrder_d (by decide) (by decide) k) ?_
  intro h23 g23 e23
  have f23_0 : h23 a = some (false, 0, [.ref n, .ref (n + 1 + 1 + 1 + 1 + 1 + 1 + 1), .null, .int 0, .double FP.dconst0]) := (e23 _ (by omega)).trans f22_0
  have f23_1 : h23 n = some (true, 4, [.ref (n + 1), .ref (n + 1 + 1), .ref (n + 1 + 1 + 1), .ref (n + 1 + 1 + 1 + 1), .ref (n + 1 + 1 + 1 + 1 + 1), .ref (n + 1 + 1 + 1 + 1 + 1 + 1)]) := (e23 _ (by omega)).trans f22_1
  have f23_2 : h23 (n + 1) = some (false, 1, [.int 0, .double FP.dconst0, .int 0, .int (-1), .null, .int 0, .int 0, .double FP.dconst0, .double FP.dconst0, .int 0, .int 0, .int 0]) := (e23 _ (by omega)).trans f22_2
  have f23_3 : h23 (n + 1 + 1) = some (false, 1, [.int 1, .double FP.dconst0, .int 0, .int (-1), .null, .int 0, .int 0, .double FP.dconst0, .double FP.dconst0, .int 0, .int 0, .int 0]) := (e23 _ (by omega)).trans f22_3
  have f23_4 : h23 (n + 1 + 1 + 1) = some (false, 1, [.int 2, .double FP.dconst0, .int 0, .int (-1), .null, .int 0, .int 0, .double FP.dconst0, .double FP.dconst0, .int 0, .int 0, .int 0]) := (e23 _ (by omega)).trans f22_4
  have f23_5 : h23 (n + 1 + 1 + 1 + 1) = some (false, 1, [.int 3, .double FP.dconst0, .int 0, .int (-1), .null, .int 0, .int 0, .double FP.dconst0, .double FP.dconst0, .int 0, .int 0, .int 0]) := (e23 _ (by omega)).trans f22_5
  have f23_6 : h23 (n + 1 + 1 + 1 + 1 + 1) = some (false, 1, [.int 4, .double FP.dconst0, .int 0, .int (-1), .null, .int 0, .int 0, .double FP.dconst0, .double FP.dconst0, .int 0, .int 0, .int 0]) := (e23 _ (by omega)).trans f22_6
  have f23_7 : h23 (n + 1 + 1 + 1 + 1 + 1 + 1) = some (false, 1, [.int 5, .double FP.dconst0, .int 0, .int (-1), .null, .int 0, .int 0, .double FP.dconst0, .double FP.dconst0, .int 0, .int 0, .int 0]) := (e23 _ (by omega)).trans f22_7
  have f23_8 : h23 (n + 1 + 1 + 1 + 1 + 1 + 1 + 1) = some (true, 5, [.null, .null, .null, .null, .null, .null, .null, .null]) := (e23 _ (by omega)).trans f22_8
  have f23_9 : h23 (n + 1 + 1 + 1 + 1 + 1 + 1 + 1 + 1) = some (false, 3, [.null, .int 0, .int 0]) := g23
  have w23 : ∀ q, q < n → q ≠ a → h23 q = h q := fun q hq na => (e23 q (by omega)).trans (w22 q hq na)
  refine sx_p (fun Z k => sh_dup dc_Hall_init_54 rfl k) ?_
  refine sx_c (sh_init (As := []) dc_Hall_init_55 lm_LockOrder_init ln_Hall_26 wd_144 rfl rfl rfl rfl (Nat.le_of_ble_eq_true rfl)) (sx_LockOrder_init (a := n + 1 + 1 + 1 + 1 + 1 + 1 + 1 + 1) (n := n + 1 + 1 + 1 + 1 + 1 + 1 + 1 + 1 + 1) (h := h23) (by omega) f23_9) ⟨by decide, Nat.le_of_ble_eq_true rfl, by decide, by decide⟩ ?_
  rintro _ h24 ⟨rfl, z24_0, z24_1, e24⟩
  have f24_0 : h24 a = some (false, 0, [.ref n, .ref (n + 1 + 1 + 1 + 1 + 1 + 1 + 1), .null, .int 0, .double FP.dconst0]) := (e24 _ (by omega) (by omega)).trans f23_0
  have f24_1 : h24 n = some (true, 4, [.ref (n + 1), .ref (n + 1 + 1), .ref (n + 1 + 1 + 1), .ref (n + 1 + 1 + 1 + 1), .ref (n + 1 + 1 + 1 + 1 + 1), .ref (n + 1 + 1 + 1 + 1 + 1 + 1)]) := (e24 _ (by omega) (by omega)).trans f23_1
  have f24_2 : h24 (n + 1) = some (false, 1, [.int 0, .double FP.dconst0, .int 0, .int (-1), .null, .int 0, .int 0, .double FP.dconst0, .double FP.dconst0, .int 0, .int 0, .int 0]) := (e24 _ (by omega) (by omega)).trans f23_2
  have f24_3 : h24 (n + 1 + 1) = some (false, 1, [.int 1, .double FP.dconst0, .int 0, .int (-1), .null, .int 0, .int 0, .double FP.dconst0, .double FP.dconst0, .int 0, .int 0, .int 0]) := (e24 _ (by omega) (by omega)).trans f23_3
  have f24_4 : h24 (n + 1 + 1 + 1) = some (false, 1, [.int 2, .double FP.dconst0, .int 0, .int (-1), .null, .int 0, .int 0, .double FP.dconst0, .double FP.dconst0, .int 0, .int 0, .int 0]) := (e24 _ (by omega) (by omega)).trans f23_4
  have f24_5 : h24 (n + 1 + 1 + 1 + 1) = some (false, 1, [.int 3, .double FP.dconst0, .int 0, .int (-1), .null, .int 0, .int 0, .double FP.dconst0, .double FP.dconst0, .int 0, .int 0, .int 0]) := (e24 _ (by omega) (by omega)).trans f23_5
  have f24_6 : h24 (n + 1 + 1 + 1 + 1 + 1) = some (false, 1, [.int 4, .double FP.dconst0, .int 0, .int (-1), .null, .int 0, .int 0, .double FP.dconst0, .double FP.dconst0, .int 0, .int 0, .int 0]) := (e24 _ (by omega) (by omega)).trans f23_6
  have f24_7 : h24 (n + 1 + 1 + 1 + 1 + 1 + 1) = some (false, 1, [.int 5, .double FP.dconst0, .int 0, .int (-1), .null, .int 0, .int 0, .double FP.dconst0, .double FP.dconst0, .int 0, .int 0, .int 0]) := (e24 _ (by omega) (by omega)).trans f23_7
  have f24_8 : h24 (n + 1 + 1 + 1 + 1 + 1 + 1 + 1) = some (true, 5, [.null, .null, .null, .null, .null, .null, .null, .null]) := (e24 _ (by omega) (by omega)).trans f23_8
  have f24_9 : h24 (n + 1 + 1 + 1 + 1 + 1 + 1 + 1 + 1) = some (false, 3, [.ref (n + 1 + 1 + 1 + 1 + 1 + 1 + 1 + 1 + 1), .int 0, .int 0]) := z24_0
  have f24_10 : h24 (n + 1 + 1 + 1 + 1 + 1 + 1 + 1 + 1 + 1) = some (true, 0, List.replicate 8 (.int 0)) := z24_1
  have w24 : ∀ q, q < n → q ≠ a → h24 q = h q := fun q hq na => (e24 q (by omega) (by omega)).trans (w23 q hq na)
  refine sx_o (q := a) (o := (false, 0, [.ref n, .ref (n + 1 + 1 + 1 + 1 + 1 + 1 + 1), .ref (n + 1 + 1 + 1 + 1 + 1 + 1 + 1 + 1), .int 0, .double FP.dconst0])) (fun Z k => sh_putF (k := 2) dc_Hall_init_58 f24_0 rfl (by decide) wd_162 rfl rfl rfl pd_LLockOrder rfl rfl k) ?_
  intro h25 g25 e25
  have f25_1 : h25 n = some (true, 4, [.ref (n + 1), .ref (n + 1 + 1), .ref (n + 1 + 1 + 1), .ref (n + 1 + 1 + 1 + 1), .ref (n + 1 + 1 + 1 + 1 + 1), .ref (n + 1 + 1 + 1 + 1 + 1 + 1)]) := (e25 _ (by omega)).trans f24_1
  have f25_2 : h25 (n + 1) = some (false, 1, [.int 0, .double FP.dconst0, .int 0, .int (-1), .null, .int 0, .int 0, .double FP.dconst0, .double FP.dconst0, .int 0, .int 0, .int 0]) := (e25 _ (by omega)).trans f24_2
  have f25_3 : h25 (n + 1 + 1) = some (false, 1, [.int 1, .double FP.dconst0, .int 0, .int (-1), .null, .int 0, .int 0, .double FP.dconst0, .double FP.dconst0, .int 0, .int 0, .int 0]) := (e25 _ (by omega)).trans f24_3
  have f25_4 : h25 (n + 1 + 1 + 1) = some (false, 1, [.int 2, .double FP.dconst0, .int 0, .int (-1), .null, .int 0, .int 0, .double FP.dconst0, .double FP.dconst0, .int 0, .int 0, .int 0]) := (e25 _ (by omega)).trans f24_4
  have f25_5 : h25 (n + 1 + 1 + 1 + 1) = some (false, 1, [.int 3, .double FP.dconst0, .int 0, .int (-1), .null, .int 0, .int 0, .double FP.dconst0, .double FP.dconst0, .int 0, .int 0, .int 0]) := (e25 _ (by omega)).trans f24_5
  have f25_6 : h25 (n + 1 + 1 + 1 + 1 + 1) = some (false, 1, [.int 4, .double FP.dconst0, .int 0, .int (-1), .null, .int 0, .int 0, .double FP.dconst0, .double FP.dconst0, .int 0, .int 0, .int 0]) := (e25 _ (by omega)).trans f24_6
  have f25_7 : h25 (n + 1 + 1 + 1 + 1 + 1 + 1) = some (false, 1, [.int 5, .double FP.dconst0, .int 0, .int (-1), .null, .int 0, .int 0, .double FP.dconst0, .double FP.dconst0, .int 0, .int 0, .int 0]) := (e25 _ (by omega)).trans f24_7
  have f25_8 : h25 (n + 1 + 1 + 1 + 1 + 1 + 1 + 1) = some (true, 5, [.null, .null, .null, .null, .null, .null, .null, .null]) := (e25 _ (by omega)).trans f24_8
  have f25_9 : h25 (n + 1 + 1 + 1 + 1 + 1 + 1 + 1 + 1) = some (false, 3, [.ref (n + 1 + 1 + 1 + 1 + 1 + 1 + 1 + 1 + 1), .int 0, .int 0]) := (e25 _ (by omega)).trans f24_9
  have f25_10 : h25 (n + 1 + 1 + 1 + 1 + 1 + 1 + 1 + 1 + 1) = some (true, 0, List.replicate 8 (.int 0)) := (e25 _ (by omega)).trans f24_10
  have f25_0 : h25 a = some (false, 0, [.ref n, .ref (n + 1 + 1 + 1 + 1 + 1 + 1 + 1), .ref (n + 1 + 1 + 1 + 1 + 1 + 1 + 1 + 1), .int 0, .double FP.dconst0]) := g25
  have w25 : ∀ q, q < n → q ≠ a → h25 q = h q := fun q hq na => (e25 q (by omega)).trans (w24 q hq na)
  refine sx_p (fun Z k => sh_aload_n dc_Hall_init_61 rfl rfl k) ?_
  refine sx_p (fun Z k => sh_iconst (v := 0) dc_Hall_init_62 (by decide) k) ?_
  refine sx_o (q := a) (o := (false, 0, [.ref n, .ref (n + 1 + 1 + 1 + 1 + 1 + 1 + 1), .ref (n + 1 + 1 + 1 + 1 + 1 + 1 + 1 + 1), .int 0, .double FP.dconst0])) (fun Z k => sh_put (k := 3) dc_Hall_init_63 f25_0 rfl (by decide) fl_Hall_31 rfl pd_I rfl rfl k) ?_
  intro h26 g26 e26
  have f26_1 : h26 n = some (true, 4, [.ref (n + 1), .ref (n + 1 + 1), .ref (n + 1 + 1 + 1), .ref (n + 1 + 1 + 1 + 1), .ref (n + 1 + 1 + 1 + 1 + 1), .ref (n + 1 + 1 + 1 + 1 + 1 + 1)]) := (e26 _ (by omega)).trans f25_1
  have f26_2 : h26 (n + 1) = some (false, 1, [.int 0, .double FP.dconst0, .int 0, .int (-1), .null, .int 0, .int 0, .double FP.dconst0, .double FP.dconst0, .int 0, .int 0, .int 0]) := (e26 _ (by omega)).trans f25_2
  have f26_3 : h26 (n + 1 + 1) = some (false, 1, [.int 1, .double FP.dconst0, .int 0, .int (-1), .null, .int 0, .int 0, .double FP.dconst0, .double FP.dconst0, .int 0, .int 0, .int 0]) := (e26 _ (by omega)).trans f25_3
  have f26_4 : h26 (n + 1 + 1 + 1) = some (false, 1, [.int 2, .double FP.dconst0, .int 0, .int (-1), .null, .int 0, .int 0, .double FP.dconst0, .double FP.dconst0, .int 0, .int 0, .int 0]) := (e26 _ (by omega)).trans f25_4
  have f26_5 : h26 (n + 1 + 1 + 1 + 1) = some (false, 1, [.int 3, .double FP.dconst0, .int 0, .int (-1), .null, .int 0, .int 0, .double FP.dconst0, .double FP.dconst0, .int 0, .int 0, .int 0]) := (e26 _ (by omega)).trans f25_5
  have f26_6 : h26 (n + 1 + 1 + 1 + 1 + 1) = some (false, 1, [.int 4, .double FP.dconst0, .int 0, .int (-1), .null, .int 0, .int 0, .double FP.dconst0, .double FP.dconst0, .int 0, .int 0, .int 0]) := (e26 _ (by omega)).trans f25_6
  have f26_7 : h26 (n + 1 + 1 + 1 + 1 + 1 + 1) = some (false, 1, [.int 5, .double FP.dconst0, .int 0, .int (-1), .null, .int 0, .int 0, .double FP.dconst0, .double FP.dconst0, .int 0, .int 0, .int 0]) := (e26 _ (by omega)).trans f25_7
  have f26_8 : h26 (n + 1 + 1 + 1 + 1 + 1 + 1 + 1) = some (true, 5, [.null, .null, .null, .null, .null, .null, .null, .null]) := (e26 _ (by omega)).trans f25_8
  have f26_9 : h26 (n + 1 + 1 + 1 + 1 + 1 + 1 + 1 + 1) = some (false, 3, [.ref (n + 1 + 1 + 1 + 1 + 1 + 1 + 1 + 1 + 1), .int 0, .int 0]) := (e26 _ (by omega)).trans f25_9
  have f26_10 : h26 (n + 1 + 1 + 1 + 1 + 1 + 1 + 1 + 1 + 1) = some (true, 0, List.replicate 8 (.int 0)) := (e26 _ (by omega)).trans f25_10
  have f26_0 : h26 a = some (false, 0, [.ref n, .ref (n + 1 + 1 + 1 + 1 + 1 + 1 + 1), .ref (n + 1 + 1 + 1 + 1 + 1 + 1 + 1 + 1), .int 0, .double FP.dconst0]) := g26
  have w26 : ∀ q, q < n → q ≠ a → h26 q = h q := fun q hq na => (e26 q (by omega)).trans (w25 q hq na)
  refine sx_p (fun Z k => sh_aload_n dc_Hall_init_66 rfl rfl k) ?_
  refine sx_p (fun Z k => sh_dconst0 dc_Hall_init_67 k) ?_
  refine sx_o (q := a) (o := (false, 0, [.ref n, .ref (n + 1 + 1 + 1 + 1 + 1 + 1 + 1), .ref (n + 1 + 1 + 1 + 1 + 1 + 1 + 1 + 1), .int 0, .double FP.dconst0])) (fun Z k => sh_put (k := 4) dc_Hall_init_68 f26_0 rfl (by decide) fl_Hall_35 rfl pd_D rfl rfl k) ?_
  intro h27 g27 e27
  have f27_1 : h27 n = some (true, 4, [.ref (n + 1), .ref (n + 1 + 1), .ref (n + 1 + 1 + 1), .ref (n + 1 + 1 + 1 + 1), .ref (n + 1 + 1 + 1 + 1 + 1), .ref (n + 1 + 1 + 1 + 1 + 1 + 1)]) := (e27 _ (by omega)).trans f26_1
  have f27_2 : h27 (n + 1) = some (false, 1, [.int 0, .double FP.dconst0, .int 0, .int (-1), .null, .int 0, .int 0, .double FP.dconst0, .double FP.dconst0, .int 0, .int 0, .int 0]) := (e27 _ (by omega)).trans f26_2
  have f27_3 : h27 (n + 1 + 1) = some (false, 1, [.int 1, .double FP.dconst0, .int 0, .int (-1), .null, .int 0, .int 0, .double FP.dconst0, .double FP.dconst0, .int 0, .int 0, .int 0]) := (e27 _ (by omega)).trans f26_3
  have f27_4 : h27 (n + 1 + 1 + 1) = some (false, 1, [.int 2, .double FP.dconst0, .int 0, .int (-1), .null, .int 0, .int 0, .double FP.dconst0, .double FP.dconst0, .int 0, .int 0, .int 0]) := (e27 _ (by omega)).trans f26_4
  have f27_5 : h27 (n + 1 + 1 + 1 + 1) = some (false, 1, [.int 3, .double FP.dconst0, .int 0, .int (-1), .null, .int 0, .int 0, .double FP.dconst0, .double FP.dconst0, .int 0, .int 0, .int 0]) := (e27 _ (by omega)).trans f26_5
  have f27_6 : h27 (n + 1 + 1 + 1 + 1 + 1) = some (false, 1, [.int 4, .double FP.dconst0, .int 0, .int (-1), .null, .int 0, .int 0, .double FP.dconst0, .double FP.dconst0, .int 0, .int 0, .int 0]) := (e27 _ (by omega)).trans f26_6
  have f27_7 : h27 (n + 1 + 1 + 1 + 1 + 1 + 1) = some (false, 1, [.int 5, .double FP.dconst0, .int 0, .int (-1), .null, .int 0, .int 0, .double FP.dconst0, .double FP.dconst0, .int 0, .int 0, .int 0]) := (e27 _ (by omega)).trans f26_7
  have f27_8 : h27 (n + 1 + 1 + 1 + 1 + 1 + 1 + 1) = some (true, 5, [.null, .null, .null, .null, .null, .null, .null, .null]) := (e27 _ (by omega)).trans f26_8
  have f27_9 : h27 (n + 1 + 1 + 1 + 1 + 1 + 1 + 1 + 1) = some (false, 3, [.ref (n + 1 + 1 + 1 + 1 + 1 + 1 + 1 + 1 + 1), .int 0, .int 0]) := (e27 _ (by omega)).trans f26_9
  have f27_10 : h27 (n + 1 + 1 + 1 + 1 + 1 + 1 + 1 + 1 + 1) = some (true, 0, List.replicate 8 (.int 0)) := (e27 _ (by omega)).trans f26_10
  have f27_0 : h27 a = some (false, 0, [.ref n, .ref (n + 1 + 1 + 1 + 1 + 1 + 1 + 1), .ref (n + 1 + 1 + 1 + 1 + 1 + 1 + 1 + 1), .int 0, .double FP.dconst0]) := g27
  have w27 : ∀ q, q < n → q ≠ a → h27 q = h q := fun q hq na => (e27 q (by omega)).trans (w26 q hq na)
  exact sx_e (sh_return dc_Hall_init_71 rfl (by decide) (by decide)) ⟨rfl, f27_0, f27_1, f27_2, f27_3, f27_4, f27_5, f27_6, f27_7, f27_8, f27_9, f27_10, w27⟩
theorem sx_Hall_newSync_k0 {n : Nat} {h : sh_Hp} {x : Int32}  : sx_M md_Hall_newSync [.int 0, .int x, .null] n h (some (va_rf (some n))) (fun n' h' => n' = n + 1 + 1 + 1 ∧ h' n = some (false, 4, [.int 0, .ref (n + 1), .double FP.dconst0, .int 0, .null, .int 0]) ∧ h' (n + 1) = some (false, 2, [.ref (n + 1 + 1), .int 0]) ∧ h' (n + 1 + 1) = some (true, 4, [.null, .null, .null, .null, .null, .null]) ∧ ∀ q, q < n → h' q = h q) := by
  have w0 : ∀ q, q < n → h q = h q := fun _ _ => rfl
  refine sx_p (fun Z k => sh_iload_n dc_Hall_newSync_0 rfl rfl k) ?_
  refine sx_p (fun Z k => sh_tableIn (tgt := 40) dc_Hall_newSync_1 (by decide) (by decide) rfl (by decide) k) ?_
  refine sx_n (o := (false, 4, [.int 0, .null, .double FP.dconst0, .int 0, .null, .int 0])) (fun Z k => sh_new (ty := nt_Lock) dc_Hall_newSync_40 rfl wd_290 wd_311 wd_61 nt_Lock_p rfl nt_Lock_d (by decide) (by decide) k) ?_
  intro h1 g1 e1
  have f1_0 : h1 n = some (false, 4, [.int 0, .null, .double FP.dconst0, .int 0, .null, .int 0]) := g1
  have w1 : ∀ q, q < n → h1 q = h q := fun q hq  => (e1 q (by omega)).trans (w0 q hq )
  refine sx_p (fun Z k => sh_dup dc_Hall_newSync_43 rfl k) ?_
  refine sx_p (fun Z k => sh_iload_n dc_Hall_newSync_44 rfl rfl k) ?_
  refine sx_c (sh_init (As := [.int 0]) dc_Hall_newSync_45 lm_Lock_init ln_Hall_260 wd_313 rfl rfl rfl rfl (Nat.le_of_ble_eq_true rfl)) (sx_Lock_init (a := n) (i := 0) (n := n + 1) (h := h1) (by omega) f1_0) ⟨by decide, Nat.le_of_ble_eq_true rfl, by decide, by decide⟩ ?_
  rintro _ h2 ⟨rfl, z2_0, z2_1, z2_2, e2⟩
  have f2_0 : h2 n = some (false, 4, [.int 0, .ref (n + 1), .double FP.dconst0, .int 0, .null, .int 0]) := z2_0
  have f2_1 : h2 (n + 1) = some (false, 2, [.ref (n + 1 + 1), .int 0]) := z2_1
  have f2_2 : h2 (n + 1 + 1) = some (true, 4, [.null, .null, .null, .null, .null, .null]) := z2_2
  have w2 : ∀ q, q < n → h2 q = h q := fun q hq  => (e2 q (by omega) (by omega)).trans (w1 q hq )
  exact sx_e (sh_areturn (v := some n) dc_Hall_newSync_48 rfl (by decide) (by decide)) ⟨rfl, f2_0, f2_1, f2_2, w2⟩
theorem sx_Hall_newSync_k1 {n : Nat} {h : sh_Hp} {x : Int32}  : sx_M md_Hall_newSync [.int 1, .int x, .null] n h (some (va_rf (some n))) (fun n' h' => n' = n + 1 + 1 + 1 ∧ h' n = some (false, 4, [.int 1, .ref (n + 1), .double FP.dconst0, .int 0, .null, .int 0]) ∧ h' (n + 1) = some (false, 2, [.ref (n + 1 + 1), .int 0]) ∧ h' (n + 1 + 1) = some (true, 4, [.null, .null, .null, .null, .null, .null]) ∧ ∀ q, q < n → h' q = h q) := by
  have w0 : ∀ q, q < n → h q = h q := fun _ _ => rfl
  refine sx_p (fun Z k => sh_iload_n dc_Hall_newSync_0 rfl rfl k) ?_
  refine sx_p (fun Z k => sh_tableIn (tgt := 40) dc_Hall_newSync_1 (by decide) (by decide) rfl (by decide) k) ?_
  refine sx_n (o := (false, 4, [.int 0, .null, .double FP.dconst0, .int 0, .null, .int 0])) (fun Z k => sh_new (ty := nt_Lock) dc_Hall_newSync_40 rfl wd_290 wd_311 wd_61 nt_Lock_p rfl nt_Lock_d (by decide) (by decide) k) ?_
  intro h1 g1 e1
  have f1_0 : h1 n = some (false, 4, [.int 0, .null, .double FP.dconst0, .int 0, .null, .int 0]) := g1
  have w1 : ∀ q, q < n → h1 q = h q := fun q hq  => (e1 q (by omega)).trans (w0 q hq )
  refine sx_p (fun Z k => sh_dup dc_Hall_newSync_43 rfl k) ?_
  refine sx_p (fun Z k => sh_iload_n dc_Hall_newSync_44 rfl rfl k) ?_
  refine sx_c (sh_init (As := [.int 1]) dc_Hall_newSync_45 lm_Lock_init ln_Hall_260 wd_313 rfl rfl rfl rfl (Nat.le_of_ble_eq_true rfl)) (sx_Lock_init (a := n) (i := 1) (n := n + 1) (h := h1) (by omega) f1_0) ⟨by decide, Nat.le_of_ble_eq_true rfl, by decide, by decide⟩ ?_
  rintro _ h2 ⟨rfl, z2_0, z2_1, z2_2, e2⟩
  have f2_0 : h2 n = some (false, 4, [.int 1, .ref (n + 1), .double FP.dconst0, .int 0, .null, .int 0]) := z2_0
  have f2_1 : h2 (n + 1) = some (false, 2, [.ref (n + 1 + 1), .int 0]) := z2_1
  have f2_2 : h2 (n + 1 + 1) = some (true, 4, [.null, .null, .null, .null, .null, .null]) := z2_2
  have w2 : ∀ q, q < n → h2 q = h q := fun q hq  => (e2 q (by omega) (by omega)).trans (w1 q hq )
  exact sx_e (sh_areturn (v := some n) dc_Hall_newSync_48 rfl (by decide) (by decide)) ⟨rfl, f2_0, f2_1, f2_2, w2⟩
theorem sx_Hall_newSync_k2 {n : Nat} {h : sh_Hp} {x : Int32}  : sx_M md_Hall_newSync [.int 2, .int x, .null] n h (some (va_rf (some n))) (fun n' h' => n' = n + 1 + 1 + 1 ∧ h' n = some (false, 5, [.int 2, .ref (n + 1), .double FP.dconst0, .int 0, .int x]) ∧ h' (n + 1) = some (false, 2, [.ref (n + 1 + 1), .int 0]) ∧ h' (n + 1 + 1) = some (true, 4, [.null, .null, .null, .null, .null, .null]) ∧ ∀ q, q < n → h' q = h q) := by
  have w0 : ∀ q, q < n → h q = h q := fun _ _ => rfl
  refine sx_p (fun Z k => sh_iload_n dc_Hall_newSync_0 rfl rfl k) ?_
  refine sx_p (fun Z k => sh_tableIn (tgt := 49) dc_Hall_newSync_1 (by decide) (by decide) rfl (by decide) k) ?_
  refine sx_n (o := (false, 5, [.int 0, .null, .double FP.dconst0, .int 0, .int 0])) (fun Z k => sh_new (ty := nt_Semaphore) dc_Hall_newSync_49 rfl wd_376 wd_377 wd_63 nt_Semaphore_p rfl nt_Semaphore_d (by decide) (by decide) k) ?_
  intro h1 g1 e1
  have f1_0 : h1 n = some (false, 5, [.int 0, .null, .double FP.dconst0, .int 0, .int 0]) := g1
  have w1 : ∀ q, q < n → h1 q = h q := fun q hq  => (e1 q (by omega)).trans (w0 q hq )
  refine sx_p (fun Z k => sh_dup dc_Hall_newSync_52 rfl k) ?_
  refine sx_p (fun Z k => sh_iload_n dc_Hall_newSync_53 rfl rfl k) ?_
  refine sx_p (fun Z k => sh_iload_n dc_Hall_newSync_54 rfl rfl k) ?_
  refine sx_c (sh_init (As := [.int 2, .int x]) dc_Hall_newSync_55 lm_Semaphore_init ln_Hall_263 wd_379 rfl rfl rfl rfl (Nat.le_of_ble_eq_true rfl)) (sx_Semaphore_init (a := n) (i := 2) (x := x) (n := n + 1) (h := h1) (by omega) f1_0) ⟨by decide, Nat.le_of_ble_eq_true rfl, by decide, by decide⟩ ?_
  rintro _ h2 ⟨rfl, z2_0, z2_1, z2_2, e2⟩
  have f2_0 : h2 n = some (false, 5, [.int 2, .ref (n + 1), .double FP.dconst0, .int 0, .int x]) := z2_0
  have f2_1 : h2 (n + 1) = some (false, 2, [.ref (n + 1 + 1), .int 0]) := z2_1
  have f2_2 : h2 (n + 1 + 1) = some (true, 4, [.null, .null, .null, .null, .null, .null]) := z2_2
  have w2 : ∀ q, q < n → h2 q = h q := fun q hq  => (e2 q (by omega) (by omega)).trans (w1 q hq )
  exact sx_e (sh_areturn (v := some n) dc_Hall_newSync_58 rfl (by decide) (by decide)) ⟨rfl, f2_0, f2_1, f2_2, w2⟩
theorem sx_Hall_newSync_k3 {n : Nat} {h : sh_Hp} {x : Int32}  : sx_M md_Hall_newSync [.int 3, .int x, .null] n h (some (va_rf (some n))) (fun n' h' => n' = n + 1 + 1 + 1 ∧ h' n = some (false, 5, [.int 3, .ref (n + 1), .double FP.dconst0, .int 0, .int x]) ∧ h' (n + 1) = some (false, 2, [.ref (n + 1 + 1), .int 0]) ∧ h' (n + 1 + 1) = some (true, 4, [.null, .null, .null, .null, .null, .null]) ∧ ∀ q, q < n → h' q = h q) := by
  have w0 : ∀ q, q < n → h q = h q := fun _ _ => rfl
  refine sx_p (fun Z k => sh_iload_n dc_Hall_newSync_0 rfl rfl k) ?_
  refine sx_p (fun Z k => sh_tableIn (tgt := 49) dc_Hall_newSync_1 (by decide) (by decide) rfl (by decide) k) ?_
  refine sx_n (o := (false, 5, [.int 0, .null, .double FP.dconst0, .int 0, .int 0])) (fun Z k => sh_new (ty := nt_Semaphore) dc_Hall_newSync_49 rfl wd_376 wd_377 wd_63 nt_Semaphore_p rfl nt_Semaphore_d (by decide) (by decide) k) ?_
  intro h1 g1 e1
  have f1_0 : h1 n = some (false, 5, [.int 0, .null, .double FP.dconst0, .int 0, .int 0]) := g1
  have w1 : ∀ q, q < n → h1 q = h q := fun q hq  => (e1 q (by omega)).trans (w0 q hq )
  refine sx_p (fun Z k => sh_dup dc_Hall_newSync_52 rfl k) ?_
  refine sx_p (fun Z k => sh_iload_n dc_Hall_newSync_53 rfl rfl k) ?_
  refine sx_p (fun Z k => sh_iload_n dc_Hall_newSync_54 rfl rfl k) ?_
  refine sx_c (sh_init (As := [.int 3, .int x]) dc_Hall_newSync_55 lm_Semaphore_init ln_Hall_263 wd_379 rfl rfl rfl rfl (Nat.le_of_ble_eq_true rfl)) (sx_Semaphore_init (a := n) (i := 3) (x := x) (n := n + 1) (h := h1) (by omega) f1_0) ⟨by decide, Nat.le_of_ble_eq_true rfl, by decide, by decide⟩ ?_
  rintro _ h2 ⟨rfl, z2_0, z2_1, z2_2, e2⟩
  have f2_0 : h2 n = some (false, 5, [.int 3, .ref (n + 1), .double FP.dconst0, .int 0, .int x]) := z2_0
  have f2_1 : h2 (n + 1) = some (false, 2, [.ref (n + 1 + 1), .int 0]) := z2_1
  have f2_2 : h2 (n + 1 + 1) = some (true, 4, [.null, .null, .null, .null, .null, .null]) := z2_2
  have w2 : ∀ q, q < n → h2 q = h q := fun q hq  => (e2 q (by omega) (by omega)).trans (w1 q hq )
  exact sx_e (sh_areturn (v := some n) dc_Hall_newSync_58 rfl (by decide) (by decide)) ⟨rfl, f2_0, f2_1, f2_2, w2⟩
theorem sx_Hall_newSync_k4 {n : Nat} {h : sh_Hp} {x : Int32}  : sx_M md_Hall_newSync [.int 4, .int x, .null] n h (some (va_rf (some n))) (fun n' h' => n' = n + 1 + 1 + 1 ∧ h' n = some (false, 6, [.int 4, .ref (n + 1), .double FP.dconst0, .int 0, .int x]) ∧ h' (n + 1) = some (false, 2, [.ref (n + 1 + 1), .int 0]) ∧ h' (n + 1 + 1) = some (true, 4, [.null, .null, .null, .null, .null, .null]) ∧ ∀ q, q < n → h' q = h q) := by
  have w0 : ∀ q, q < n → h q = h q := fun _ _ => rfl
  refine sx_p (fun Z k => sh_iload_n dc_Hall_newSync_0 rfl rfl k) ?_
  refine sx_p (fun Z k => sh_tableIn (tgt := 59) dc_Hall_newSync_1 (by decide) (by decide) rfl (by decide) k) ?_
  refine sx_n (o := (false, 6, [.int 0, .null, .double FP.dconst0, .int 0, .int 0])) (fun Z k => sh_new (ty := nt_Latch) dc_Hall_newSync_59 rfl wd_390 wd_391 wd_64 nt_Latch_p rfl nt_Latch_d (by decide) (by decide) k) ?_
  intro h1 g1 e1
  have f1_0 : h1 n = some (false, 6, [.int 0, .null, .double FP.dconst0, .int 0, .int 0]) := g1
  have w1 : ∀ q, q < n → h1 q = h q := fun q hq  => (e1 q (by omega)).trans (w0 q hq )
  refine sx_p (fun Z k => sh_dup dc_Hall_newSync_62 rfl k) ?_
  refine sx_p (fun Z k => sh_iload_n dc_Hall_newSync_63 rfl rfl k) ?_
  refine sx_c (sh_init (As := [.int x]) dc_Hall_newSync_64 lm_Latch_init ln_Hall_268 wd_393 rfl rfl rfl rfl (Nat.le_of_ble_eq_true rfl)) (sx_Latch_init (a := n) (x := x) (n := n + 1) (h := h1) (by omega) f1_0) ⟨by decide, Nat.le_of_ble_eq_true rfl, by decide, by decide⟩ ?_
  rintro _ h2 ⟨rfl, z2_0, z2_1, z2_2, e2⟩
  have f2_0 : h2 n = some (false, 6, [.int 4, .ref (n + 1), .double FP.dconst0, .int 0, .int x]) := z2_0
  have f2_1 : h2 (n + 1) = some (false, 2, [.ref (n + 1 + 1), .int 0]) := z2_1
  have f2_2 : h2 (n + 1 + 1) = some (true, 4, [.null, .null, .null, .null, .null, .null]) := z2_2
  have w2 : ∀ q, q < n → h2 q = h q := fun q hq  => (e2 q (by omega) (by omega)).trans (w1 q hq )
  exact sx_e (sh_areturn (v := some n) dc_Hall_newSync_67 rfl (by decide) (by decide)) ⟨rfl, f2_0, f2_1, f2_2, w2⟩
theorem sx_Hall_newSync_k5 {n : Nat} {h : sh_Hp} {x : Int32}  : sx_M md_Hall_newSync [.int 5, .int x, .null] n h (some (va_rf (some n))) (fun n' h' => n' = n + 1 + 1 + 1 + 1 ∧ h' n = some (false, 7, [.int 5, .ref (n + 1), .double FP.dconst0, .int 0, .ref (n + 1 + 1 + 1), .null, .int 0]) ∧ h' (n + 1) = some (false, 2, [.ref (n + 1 + 1), .int 0]) ∧ h' (n + 1 + 1) = some (true, 4, [.null, .null, .null, .null, .null, .null]) ∧ h' (n + 1 + 1 + 1) = some (true, 0, List.replicate 6 (.int 0)) ∧ ∀ q, q < n → h' q = h q) := by
  have w0 : ∀ q, q < n → h q = h q := fun _ _ => rfl
  refine sx_p (fun Z k => sh_iload_n dc_Hall_newSync_0 rfl rfl k) ?_
  refine sx_p (fun Z k => sh_tableIn (tgt := 68) dc_Hall_newSync_1 (by decide) (by decide) rfl (by decide) k) ?_
  refine sx_n (o := (false, 7, [.int 0, .null, .double FP.dconst0, .int 0, .null, .null, .int 0])) (fun Z k => sh_new (ty := nt_Shared) dc_Hall_newSync_68 rfl wd_404 wd_405 wd_65 nt_Shared_p rfl nt_Shared_d (by decide) (by decide) k) ?_
  intro h1 g1 e1
  have f1_0 : h1 n = some (false, 7, [.int 0, .null, .double FP.dconst0, .int 0, .null, .null, .int 0]) := g1
  have w1 : ∀ q, q < n → h1 q = h q := fun q hq  => (e1 q (by omega)).trans (w0 q hq )
  refine sx_p (fun Z k => sh_dup dc_Hall_newSync_71 rfl k) ?_
  refine sx_c (sh_init (As := []) dc_Hall_newSync_72 lm_Shared_init ln_Hall_271 wd_407 rfl rfl rfl rfl (Nat.le_of_ble_eq_true rfl)) (sx_Shared_init (a := n) (n := n + 1) (h := h1) (by omega) f1_0) ⟨by decide, Nat.le_of_ble_eq_true rfl, by decide, by decide⟩ ?_
  rintro _ h2 ⟨rfl, z2_0, z2_1, z2_2, z2_3, e2⟩
  have f2_0 : h2 n = some (false, 7, [.int 5, .ref (n + 1), .double FP.dconst0, .int 0, .ref (n + 1 + 1 + 1), .null, .int 0]) := z2_0
  have f2_1 : h2 (n + 1) = some (false, 2, [.ref (n + 1 + 1), .int 0]) := z2_1
  have f2_2 : h2 (n + 1 + 1) = some (true, 4, [.null, .null, .null, .null, .null, .null]) := z2_2
  have f2_3 : h2 (n + 1 + 1 + 1) = some (true, 0, List.replicate 6 (.int 0)) := z2_3
  have w2 : ∀ q, q < n → h2 q = h q := fun q hq  => (e2 q (by omega) (by omega)).trans (w1 q hq )
  exact sx_e (sh_areturn (v := some n) dc_Hall_newSync_75 rfl (by decide) (by decide)) ⟨rfl, f2_0, f2_1, f2_2, f2_3, w2⟩
theorem sx_Hall_newSync_k6 {n : Nat} {h : sh_Hp} {x : Int32} {l : Nat}  : sx_M md_Hall_newSync [.int 6, .int x, .ref l] n h (some (va_rf (some n))) (fun n' h' => n' = n + 1 + 1 + 1 ∧ h' n = some (false, 8, [.int 6, .ref (n + 1), .double FP.dconst0, .int 0, .ref l]) ∧ h' (n + 1) = some (false, 2, [.ref (n + 1 + 1), .int 0]) ∧ h' (n + 1 + 1) = some (true, 4, [.null, .null, .null, .null, .null, .null]) ∧ ∀ q, q < n → h' q = h q) := by
  have w0 : ∀ q, q < n → h q = h q := fun _ _ => rfl
  refine sx_p (fun Z k => sh_iload_n dc_Hall_newSync_0 rfl rfl k) ?_
  refine sx_p (fun Z k => sh_tableOut (tgt := 76) dc_Hall_newSync_1 (by decide) (by decide) k) ?_
  refine sx_n (o := (false, 8, [.int 0, .null, .double FP.dconst0, .int 0, .null])) (fun Z k => sh_new (ty := nt_Condition) dc_Hall_newSync_76 rfl wd_424 wd_425 wd_66 nt_Condition_p rfl nt_Condition_d (by decide) (by decide) k) ?_
  intro h1 g1 e1
  have f1_0 : h1 n = some (false, 8, [.int 0, .null, .double FP.dconst0, .int 0, .null]) := g1
  have w1 : ∀ q, q < n → h1 q = h q := fun q hq  => (e1 q (by omega)).trans (w0 q hq )
  refine sx_p (fun Z k => sh_dup dc_Hall_newSync_79 rfl k) ?_
  refine sx_p (fun Z k => sh_aload_n dc_Hall_newSync_80 rfl rfl k) ?_
  refine sx_c (sh_init (As := [.ref l]) dc_Hall_newSync_81 lm_Condition_init ln_Hall_272 wd_427 rfl rfl rfl rfl (Nat.le_of_ble_eq_true rfl)) (sx_Condition_init (a := n) (l := l) (n := n + 1) (h := h1) (by omega) f1_0) ⟨by decide, Nat.le_of_ble_eq_true rfl, by decide, by decide⟩ ?_
  rintro _ h2 ⟨rfl, z2_0, z2_1, z2_2, e2⟩
  have f2_0 : h2 n = some (false, 8, [.int 6, .ref (n + 1), .double FP.dconst0, .int 0, .ref l]) := z2_0
  have f2_1 : h2 (n + 1) = some (false, 2, [.ref (n + 1 + 1), .int 0]) := z2_1
  have f2_2 : h2 (n + 1 + 1) = some (true, 4, [.null, .null, .null, .null, .null, .null]) := z2_2
  have w2 : ∀ q, q < n → h2 q = h q := fun q hq  => (e2 q (by omega) (by omega)).trans (w1 q hq )
  exact sx_e (sh_areturn (v := some n) dc_Hall_newSync_84 rfl (by decide) (by decide)) ⟨rfl, f2_0, f2_1, f2_2, w2⟩
