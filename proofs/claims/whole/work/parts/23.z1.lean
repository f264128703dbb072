/-! statics that hold a reference: carried, for the exceptions -/
def pz_Zs (C n d : String) (A : Nat → Prop) (U : State) (H : Heap) : Prop := ∃ (c : ClassId) (k : Class) (i : Nat) (f : Field) (a : Addr) (cell : Cell) (v : Value), U.vm.findClass C = some c ∧ U.fieldFound? C n d = some (c, k, i, f) ∧ f.isStatic = true ∧ k.statics = some a ∧ H[a]? = some cell ∧ cell.vm.isStatics = true ∧ cell.cls = c ∧
  f.slot < cell.slots.size ∧ k.staticTypes[f.slot]? = some f.type ∧ cell.slots[f.slot]? = some v ∧ v.isRef = true ∧ ¬ A a
theorem pz_Zs.moved {C n d : String} {A : Nat → Prop} {u U : State} {H : Heap} (hvm : u.vm.Alike U.vm) (h : pz_Zs C n d A u H) : pz_Zs C n d A U H := by
  obtain ⟨c, k, i, f, a, cell, v, h1, h2, h3, h4, h5, h6, h7, h8, h9, h10⟩ := h
  obtain ⟨k', hi', he⟩ := State.fieldFound?_setVm hvm h2
  exact ⟨c, k', i, f, a, cell, v, by rw [hvm.findClass]; exact h1, hi', h3, by rw [he]; exact h4, h5, h6, h7, h8, by rw [he]; exact h9, h10⟩
theorem pz_Zs.kept {C n d : String} {A : Nat → Prop} {U : State} {H H1 : Heap} (h : pz_Zs C n d A U H) (hq : ∀ a : Nat, a < H.size → ¬ A a → H1[a]? = H[a]?) : pz_Zs C n d A U H1 := by
  obtain ⟨c, k, i, f, a, cell, v, h1, h2, h3, h4, h5, h6, h7, h8, h9, h10, h11, h12⟩ := h
  exact ⟨c, k, i, f, a, cell, v, h1, h2, h3, h4, by rw [hq a (Array.getElem?_eq_some_iff.mp h5).1 h12]; exact h5, h6, h7, h8, h9, h10, h11, h12⟩
theorem pz_Zs.lays {C n d : String} {A : Nat → Prop} {U : State} {args : Array Value} (h : pz_Zs C n d A U U.heap) : (Cond.laysStatic C n d).before args U = true := by
  obtain ⟨c, k, i, f, a, cell, v, h1, h2, h3, h4, h5, h6, h7, h8, h9, h10⟩ := h
  exact Cond.laysStatic_of h1 h2 h3 h4 h5 h6 h7 h8 h9
theorem pz_Zs.ref {C n d : String} {A : Nat → Prop} {U : State} {args : Array Value} (h : pz_Zs C n d A U U.heap) : (Cond.isRef (.static C n d)).before args U = true := by
  obtain ⟨c, k, i, f, a, cell, v, h1, h2, h3, h4, h5, h6, h7, h8, h9, h10, h11, h12⟩ := h
  have h13 : (Term.static C n d).eval args U none [] U = some v := Term.static_eval h2 h3 h4 h5 h6 h10
  simp only [Cond.before, Cond.holds, Cond.value, h13]
  cases v <;> first | rfl | cases h11
def pz_Th (ad : Nat → Nat) (U : State) (H : Heap) : Prop := pz_Zs "java/lang/Throwable" "UNASSIGNED_STACK" "[Ljava/lang/StackTraceElement;" (pz_W ad) U H ∧ pz_Zs "java/lang/Throwable" "SUPPRESSED_SENTINEL" "Ljava/util/List;" (pz_W ad) U H
/-- which exceptions are of another kind than which -/
def pz_Nx (U : State) : Prop := ∀ i j, i < 3 → j < 3 → i ≠ j → va_Nc (pz_xn i) (pz_xn j) U
def pz_tab (k : Nat) (cd : Code) : Prop := cd.exceptionTable.toList.map (fun h => (h.startPc, h.endPc, h.handlerPc, h.catchType)) = pz_hs k
/-! THE STEPS, each on the machine itself -/
/-- how many throws are left -/
def pz_b (M : pm_M) : Nat := (M 99 0).toNat
theorem pz_b_set {M : pm_M} {c : Nat} {j x : Int} (h : c < 36) : pz_b (pm_set M c j x) = pz_b M := by
  unfold pz_b
  rw [pm_set_off 99 (by omega)]
/-- the fixed things: launch, length of the script, addresses, array classes, classes -/
abbrev pz_G : Type := Launch × Nat × (Nat → Nat) × (Nat → ClassId) × va_G
/-- the script, at the start of an invocation -/
def pz_Xs (G : pz_G) (s : State) (M : pm_M) : Prop := va_X (G.2.2.1 35) G.2.1 (fun j => Int32.ofInt (M 35 j)) s s.heap ∧ G.2.2.1 35 < s.heap.size
theorem pz_Xs.set {G : pz_G} {s : State} {M : pm_M} {c : Nat} {j x : Int} (h : pz_Xs G s M) (hc : c ≠ 35) : pz_Xs G s (pm_set M c j x) := by
  unfold pz_Xs
  rw [pm_set_off 35 (fun z => hc z.symm)]
  exact h
/-- how an invocation ended -/
def pz_out (ad : Nat → Nat) (r : pm_A) (o : Outcome) (s t : State) : Prop := match r with
  | .inl v => o = .returned (v.map (pz_v ad)) ∧ ∀ x, v = some x → pz_rv x
  | .inr kd => ∃ (a : Addr) (cell : Cell), o = .threw a ∧ t.heap[a]? = some cell ∧ cell.vm = .none ∧ s.vm.findClass (pz_xn kd) = some cell.cls
def pz_MQ (G : pz_G) (below : List Frame) (s : State) (tc ts : Nat) (Q : pm_P) : State → Prop := fun t =>
  ∃ (o : Outcome) (r : pm_A) (M' : pm_M), t.status = .running ∧ Ended t below o ∧ Q r M' ∧ pz_out G.2.2.1 r o s t ∧ ((∀ a b, pm_R (M' a b)) ∧ pz_Xs G s M') ∧ pz_b M' ≤ tc ∧ 6 * pz_b M' ≤ ts ∧ s.WarmedH t.vm ∧
    va_P G.2.2.2.2 pz_cl (pz_ws G.2.1 G.2.2.1 G.2.2.2.1 M') t.heap ∧
    ∃ Lc : List Loc, (∀ q ∈ Lc, pz_A G.2.2.1 s.heap.size q.base) ∧ s.sameButNew ({ t with vm := s.vm } : State) Lc (tc - pz_b M') (ts - 6 * pz_b M') ∧ va_F (pz_A G.2.2.1 s.heap.size) s t
/-- what stands about the method k at its start s -/
def pz_C (G : pz_G) (k : Nat) (p : Program) (R : Room) (s : State) (m : MethodId) (meth : Method) (cd : Code) : Prop :=
  p.tables.exec = Jvm.exec ∧ cd.code = pm_bytes k ∧ meth.sig.returnType = pz_rt (pm_ret k) ∧ meth.locks = false ∧ s.vm.findClass (pz_cn (pm_own k)) = some m.cls ∧ pz_T s ∧
  va_K G.2.2.2.2 pz_cl (pz_tys G.2.2.2.1) s ∧ pz_Th G.2.2.1 s s.heap ∧ pm_rank k ≤ R.frames ∧ 40 * pm_rank k ≤ R.locals ∧ cd.maxLocals = pm_mL k ∧ pz_tab k cd ∧ G.2.1 ≤ 100000 ∧ pz_inj G.2.2.1 ∧ G.1.stackTraces = false ∧ pz_Nx s
def pz_Z (G : pz_G) (c : pm_C) (Q : pm_P) : Prop :=
  (∀ v, some v ∈ c.2.2.1 → pz_rv v ∧ pm_is1 v = true) → (∀ v ∈ c.2.2.2.1, pz_rv v) → (∀ a b, pm_R (c.2.2.2.2 a b)) → c.2.2.1.length = pm_mL c.1 →
  ∀ (p : Program) (e : Env) (R : Room) (s : State) (m : MethodId) (args : Array Value) (below : List Frame) (meth : Method) (cd : Code) (H : Heap) (locs : List Loc) (cells slots : Nat) (LS : Array Slot) (tc ts : Nat),
    pz_C G c.1 p R s m meth cd → cells + pz_b c.2.2.2.2 ≤ tc → tc ≤ R.cells → slots + 6 * pz_b c.2.2.2.2 ≤ ts → ts ≤ R.slots →
    va_P G.2.2.2.2 pz_cl (pz_ws G.2.1 G.2.2.1 G.2.2.2.1 c.2.2.2.2) H → va_S (pz_A G.2.2.1 s.heap.size) s.heap H locs → lv_has LS (pm_mL c.1) (pz_lv G.2.2.1 c.2.2.1) → pz_Xs G s c.2.2.2.2 →
    W p G.1 e R s m args below meth cd H locs cells slots (pz_MQ G below s tc ts Q) (F0 m c.2.1 LS (c.2.2.2.1.map (pz_v G.2.2.1)))
theorem pz_mono (G : pz_G) : pm_mono (pz_Z G) := by
  intro c Q Q' h hz k1 k2 k3 k4 p e R s m args below meth cd H locs cells slots LS tc ts h1 h2 h3 h4 h5 h6 h7 h8 h9 T hT X
  obtain ⟨t, a, o, r, M', b1, b2, b3, b4⟩ := hz k1 k2 k3 k4 p e R s m args below meth cd H locs cells slots LS tc ts h1 h2 h3 h4 h5 h6 h7 h8 h9 T hT X
  exact ⟨t, a, o, r, M', b1, b2, h _ _ b3, b4⟩
section PZ
variable {G : pz_G} {k pc len : Nat} {ls : pm_L} {st : List pm_V} {M : pm_M} {Q : pm_P}
/-- a step that turns stack alone: out of a row of the kit -/
theorem pz_stk {v : pm_V} {r rest : List pm_V} {n : Nat} (hr : st = r ++ rest) (hv : (∀ v ∈ r, pz_rv v) → pz_rv v)
    (hrow : ∀ (p : Program) (e : Env) (R : Room) (s : State) (m : MethodId) (args : Array Value) (below : List Frame) (meth : Method) (cd : Code) (H : Heap) (locs : List Loc) (cells slots : Nat) (LS : Array Slot) (QQ : State → Prop), pz_C G k p R s m meth cd → (∀ v ∈ r, pz_rv v) → lv_has LS (pm_mL k) (pz_lv G.2.2.1 ls) →
      W p G.1 e R s m args below meth cd H locs cells slots QQ (F0 m (pc + n) LS (pz_v G.2.2.1 v :: rest.map (pz_v G.2.2.1))) → W p G.1 e R s m args below meth cd H locs cells slots QQ (F0 m pc LS (r.map (pz_v G.2.2.1) ++ rest.map (pz_v G.2.2.1))))
    (h : pz_Z G (k, pc + n, ls, v :: rest, M) Q) : pz_Z G (k, pc, ls, st, M) Q := by
  subst hr
  intro k1 k2 k3 k4 p e R s m args below meth cd H locs cells slots LS tc ts h1 h2 h3 h4 h5 h6 h7 h8 h9
  dsimp only at k1 k2 k3 k4 h1 h2 h3 h4 h5 h6 h7 h8 h9 ⊢
  have k5 : ∀ v ∈ r, pz_rv v := fun w hw => k2 w (List.mem_append_left _ hw)
  rw [List.map_append]
  refine hrow p e R s m args below meth cd H locs cells slots LS _ h1 k5 h8 ?_
  refine h k1 ?_ k3 k4 p e R s m args below meth cd H locs cells slots LS tc ts h1 h2 h3 h4 h5 h6 h7 h8 h9
  intro w hw
  rcases List.mem_cons.mp hw with rfl | hw
  · exact hv k5
  · exact k2 w (List.mem_append_right _ hw)
theorem z_iconst {x : Int} (hd : decode (pm_bytes k) pc = .ok (.iconst x, 1)) (h0 : -1 ≤ x) (h1 : x ≤ 5) (h : pz_Z G (k, pc + 1, ls, .inl x :: st, M) Q) : pz_Z G (k, pc, ls, st, M) Q :=
  pz_stk (r := []) rfl (fun _ => by show pm_R x; unfold pm_R; omega) (fun p e R s m args below meth cd H locs cells slots LS QQ hC _ hl hk => lv_iconst hC.1 hC.2.1 hd rfl hk) h
theorem pz_i8 {x : Int} (h0 : -128 ≤ x) (h1 : x ≤ 127) : (Int8.ofInt x).toInt32 = Int32.ofInt x := by
  apply Int32.toInt_inj.mp
  rw [Int8.toInt_toInt32, Int8.toInt_ofInt, Int32.toInt_ofInt]
  show x.bmod 256 = x.bmod 4294967296
  rw [Int.bmod_eq_of_le (by omega) (by omega), Int.bmod_eq_of_le (by omega) (by omega)]
theorem pz_i16 {x : Int} (h0 : -32768 ≤ x) (h1 : x ≤ 32767) : (Int16.ofInt x).toInt32 = Int32.ofInt x := by
  apply Int32.toInt_inj.mp
  rw [Int16.toInt_toInt32, Int16.toInt_ofInt, Int32.toInt_ofInt]
  show x.bmod 65536 = x.bmod 4294967296
  rw [Int.bmod_eq_of_le (by omega) (by omega), Int.bmod_eq_of_le (by omega) (by omega)]
theorem z_bipush {x : Int} (hd : decode (pm_bytes k) pc = .ok (.bipush x, 2)) (h0 : -128 ≤ x) (h1 : x ≤ 127) (h : pz_Z G (k, pc + 2, ls, .inl x :: st, M) Q) : pz_Z G (k, pc, ls, st, M) Q :=
  pz_stk (r := []) rfl (fun _ => by show pm_R x; unfold pm_R; omega) (fun p e R s m args below meth cd H locs cells slots LS QQ hC _ hl hk => lv_bipush hC.1 hC.2.1 hd (pz_i8 h0 h1) hk) h
theorem z_sipush {x : Int} (hd : decode (pm_bytes k) pc = .ok (.sipush x, 3)) (h0 : -32768 ≤ x) (h1 : x ≤ 32767) (h : pz_Z G (k, pc + 3, ls, .inl x :: st, M) Q) : pz_Z G (k, pc, ls, st, M) Q :=
  pz_stk (r := []) rfl (fun _ => by show pm_R x; unfold pm_R; omega) (fun p e R s m args below meth cd H locs cells slots LS QQ hC _ hl hk => lv_sipush hC.1 hC.2.1 hd (pz_i16 h0 h1) hk) h
theorem z_lconst {x : Fin 2} (hd : decode (pm_bytes k) pc = .ok (.lconst x, 1)) (h : pz_Z G (k, pc + 1, ls, .inr (.inr (x.val : Int)) :: st, M) Q) : pz_Z G (k, pc, ls, st, M) Q :=
  pz_stk (r := []) rfl (fun _ => by show pm_R (x.val : Int); have := x.isLt; unfold pm_R; omega) (fun p e R s m args below meth cd H locs cells slots LS QQ hC _ hl hk => lv_lconst hC.1 hC.2.1 hd (Int64.ofInt_eq_ofNat (n := x.val)).symm hk) h
theorem z_iload {x : Int} {n : Nat} (hk1 : ∀ v, some v ∈ ls → pz_rv v) (hl : ls[n]? = some (some (.inl x))) (hd : decode (pm_bytes k) pc = .ok (.iload n, 2)) (h : pz_Z G (k, pc + 2, ls, .inl x :: st, M) Q) : pz_Z G (k, pc, ls, st, M) Q :=
  pz_stk (v := .inl x) (r := []) rfl (fun _ => hk1 _ (List.mem_of_getElem? hl)) (fun p e R s m args below meth cd H locs cells slots LS QQ hC _ hh hk => lv_iload hC.1 hC.2.1 hd (pz_read hh hl) hk) h
theorem z_iload_n {x : Int} {n : Fin 4} (hk1 : ∀ v, some v ∈ ls → pz_rv v) (hl : ls[n.val]? = some (some (.inl x))) (hd : decode (pm_bytes k) pc = .ok (.iload_n n, 1)) (h : pz_Z G (k, pc + 1, ls, .inl x :: st, M) Q) : pz_Z G (k, pc, ls, st, M) Q :=
  pz_stk (v := .inl x) (r := []) rfl (fun _ => hk1 _ (List.mem_of_getElem? hl)) (fun p e R s m args below meth cd H locs cells slots LS QQ hC _ hh hk => lv_iload_n hC.1 hC.2.1 hd rfl (pz_read hh hl) hk) h
theorem z_aload {x n : Nat} (hl : ls[n]? = some (some (.inr (.inl x)))) (hd : decode (pm_bytes k) pc = .ok (.aload n, 2)) (h : pz_Z G (k, pc + 2, ls, .inr (.inl x) :: st, M) Q) : pz_Z G (k, pc, ls, st, M) Q :=
  pz_stk (v := .inr (.inl x)) (r := []) rfl (fun _ => trivial) (fun p e R s m args below meth cd H locs cells slots LS QQ hC _ hh hk => lv_aload hC.1 hC.2.1 hd (pz_read hh hl) hk) h
theorem z_aload_n {x : Nat} {n : Fin 4} (hl : ls[n.val]? = some (some (.inr (.inl x)))) (hd : decode (pm_bytes k) pc = .ok (.aload_n n, 1)) (h : pz_Z G (k, pc + 1, ls, .inr (.inl x) :: st, M) Q) : pz_Z G (k, pc, ls, st, M) Q :=
  pz_stk (v := .inr (.inl x)) (r := []) rfl (fun _ => trivial) (fun p e R s m args below meth cd H locs cells slots LS QQ hC _ hh hk => lv_aload_n hC.1 hC.2.1 hd rfl (pz_read hh hl) hk) h
theorem z_iadd {x y : Int} {r : List pm_V} (hs : st = .inl y :: .inl x :: r) (hq : pm_R (x + y)) (hd : decode (pm_bytes k) pc = .ok (.iadd, 1)) (h : pz_Z G (k, pc + 1, ls, .inl (x + y) :: r, M) Q) : pz_Z G (k, pc, ls, st, M) Q :=
  pz_stk (v := .inl (x + y)) (r := [.inl y, .inl x]) hs (fun _ => hq) (fun p e R s m args below meth cd H locs cells slots LS QQ hC _ hh hk => lv_iadd hC.1 hC.2.1 hd (by rw [← Int32.ofInt_add]; exact hk)) h
theorem z_isub {x y : Int} {r : List pm_V} (hs : st = .inl y :: .inl x :: r) (hq : pm_R (x - y)) (hd : decode (pm_bytes k) pc = .ok (.isub, 1)) (h : pz_Z G (k, pc + 1, ls, .inl (x - y) :: r, M) Q) : pz_Z G (k, pc, ls, st, M) Q :=
  pz_stk (v := .inl (x - y)) (r := [.inl y, .inl x]) hs (fun _ => hq) (fun p e R s m args below meth cd H locs cells slots LS QQ hC _ hh hk => lv_isub hC.1 hC.2.1 hd (by rw [← Int32.ofInt_sub]; exact hk)) h
theorem z_imul {x y : Int} {r : List pm_V} (hs : st = .inl y :: .inl x :: r) (hq : pm_R (x * y)) (hd : decode (pm_bytes k) pc = .ok (.imul, 1)) (h : pz_Z G (k, pc + 1, ls, .inl (x * y) :: r, M) Q) : pz_Z G (k, pc, ls, st, M) Q :=
  pz_stk (v := .inl (x * y)) (r := [.inl y, .inl x]) hs (fun _ => hq) (fun p e R s m args below meth cd H locs cells slots LS QQ hC _ hh hk => lv_imul hC.1 hC.2.1 hd (by rw [← Int32.ofInt_mul]; exact hk)) h
theorem pz_and1 {x : Int} : Int32.ofInt x &&& Int32.ofInt 1 = Int32.ofInt (x % 2) := by
  apply Int32.toBitVec_inj.mp
  apply BitVec.eq_of_toNat_eq
  show (BitVec.ofInt 32 x &&& BitVec.ofInt 32 1).toNat = (BitVec.ofInt 32 (x % 2)).toNat
  rw [BitVec.toNat_and, BitVec.toNat_ofInt, BitVec.toNat_ofInt, BitVec.toNat_ofInt]
  show (x % 4294967296).toNat &&& 1 = ((x % 2) % 4294967296).toNat
  rw [Nat.and_one_is_mod]
  omega
theorem pz_and15 {x : Int} : Int32.ofInt x &&& Int32.ofInt 15 = Int32.ofInt (x % 16) := by
  apply Int32.toBitVec_inj.mp
  apply BitVec.eq_of_toNat_eq
  show (BitVec.ofInt 32 x &&& BitVec.ofInt 32 15).toNat = (BitVec.ofInt 32 (x % 16)).toNat
  rw [BitVec.toNat_and, BitVec.toNat_ofInt, BitVec.toNat_ofInt, BitVec.toNat_ofInt]
  show (x % 4294967296).toNat &&& (2 ^ 4 - 1) = ((x % 16) % 4294967296).toNat
  rw [Nat.and_two_pow_sub_one_eq_mod]
  omega
theorem pz_nxor (n : Nat) : n ^^^ 1 = if n % 2 = 0 then n + 1 else n - 1 := by
  have h1 : (n ^^^ 1) / 2 = n / 2 := by rw [Nat.xor_div_two]; simp
  have h2 : (n ^^^ 1) % 2 = (n % 2) ^^^ 1 := by
    have := Nat.xor_mod_two_pow (a := n) (b := 1) (n := 1)
    simpa using this
  rcases Nat.mod_two_eq_zero_or_one n with h | h
  · rw [if_pos h]; rw [h] at h2; have h3 : (n ^^^ 1) % 2 = 1 := h2; omega
  · rw [if_neg (by omega)]; rw [h] at h2; have h3 : (n ^^^ 1) % 2 = 0 := h2; omega
theorem pz_xor1 {x : Int} : Int32.ofInt x ^^^ Int32.ofInt 1 = Int32.ofInt (pm_op x) := by
  apply Int32.toBitVec_inj.mp
  apply BitVec.eq_of_toNat_eq
  show (BitVec.ofInt 32 x ^^^ BitVec.ofInt 32 1).toNat = (BitVec.ofInt 32 (pm_op x)).toNat
  rw [BitVec.toNat_xor, BitVec.toNat_ofInt, BitVec.toNat_ofInt, BitVec.toNat_ofInt]
  show (x % 4294967296).toNat ^^^ 1 = (pm_op x % 4294967296).toNat
  rw [pz_nxor]
  unfold pm_op
  by_cases h : x % 2 = 0
  · rw [if_pos h, if_pos (by omega)]; omega
  · rw [if_neg h, if_neg (by omega)]; omega
theorem pz_op_R {x : Int} (h : pm_R x) : pm_R (pm_op x) := by
  unfold pm_R pm_op at *
  split <;> omega
theorem pz_shr1 {x : Int} (h : pm_R x) : Int32.ofInt x >>> (Int32.ofInt 1 &&& 31) = Int32.ofInt (x / 2) := by
  apply Int32.toInt_inj.mp
  rw [pz_int (x := x / 2) (by unfold pm_R at *; omega)]
  have e : (Int32.ofInt 1 &&& 31 : Int32) = 1 := by decide
  rw [e]
  have h1 : (Int32.ofInt x >>> (1 : Int32)).toInt = (Int32.ofInt x).toInt >>> 1 := by
    show ((Int32.ofInt x) >>> (1 : Int32)).toBitVec.toInt = _
    rw [Int32.toBitVec_shiftRight]
    show ((Int32.ofInt x).toBitVec.sshiftRight ((1 : Int32).toBitVec.smod 32).toNat).toInt = _
    rw [show ((1 : Int32).toBitVec.smod 32).toNat = 1 from by decide, BitVec.toInt_sshiftRight]
    rfl
  rw [h1, pz_int h, Int.shiftRight_eq_div_pow]
  rfl
theorem z_iand {x y : Int} {r : List pm_V} (hs : st = .inl y :: .inl x :: r) (hy : y = 1 ∨ y = 15) (hd : decode (pm_bytes k) pc = .ok (.iand, 1)) (h : pz_Z G (k, pc + 1, ls, .inl (x % (y + 1)) :: r, M) Q) : pz_Z G (k, pc, ls, st, M) Q := by
  refine pz_stk (v := .inl (x % (y + 1))) (r := [.inl y, .inl x]) hs (fun _ => ?_) (fun p e R s m args below meth cd H locs cells slots LS QQ hC _ hh hk => lv_iand hC.1 hC.2.1 hd ?_) h
  · show pm_R _
    unfold pm_R
    rcases hy with rfl | rfl <;> omega
  · rcases hy with rfl | rfl
    · rw [pz_and1]; exact hk
    · rw [pz_and15]; exact hk
theorem z_ixor {x : Int} {r : List pm_V} (hs : st = .inl 1 :: .inl x :: r) (hd : decode (pm_bytes k) pc = .ok (.ixor, 1)) (h : pz_Z G (k, pc + 1, ls, .inl (pm_op x) :: r, M) Q) : pz_Z G (k, pc, ls, st, M) Q :=
  pz_stk (v := .inl (pm_op x)) (r := [.inl 1, .inl x]) hs (fun hr => pz_op_R (hr (.inl x) (by simp))) (fun p e R s m args below meth cd H locs cells slots LS QQ hC _ hh hk => lv_ixor hC.1 hC.2.1 hd (by rw [pz_xor1]; exact hk)) h
theorem z_ishr {x : Int} {r : List pm_V} (hs : st = .inl 1 :: .inl x :: r) (hd : decode (pm_bytes k) pc = .ok (.ishr, 1)) (h : pz_Z G (k, pc + 1, ls, .inl (x / 2) :: r, M) Q) : pz_Z G (k, pc, ls, st, M) Q :=
  pz_stk (v := .inl (x / 2)) (r := [.inl 1, .inl x]) hs (fun hr => by have h9 : pm_R x := hr (.inl x) (by simp); show pm_R (x / 2); unfold pm_R at *; omega) (fun p e R s m args below meth cd H locs cells slots LS QQ hC hr hh hk => lv_ishr hC.1 hC.2.1 hd (by rw [pz_shr1 (hr (.inl x) (by simp))]; exact hk)) h
theorem z_i2l {x : Int} {r : List pm_V} (hs : st = .inl x :: r) (hd : decode (pm_bytes k) pc = .ok (.i2l, 1)) (h : pz_Z G (k, pc + 1, ls, .inr (.inr x) :: r, M) Q) : pz_Z G (k, pc, ls, st, M) Q :=
  pz_stk (v := .inr (.inr x)) (r := [.inl x]) hs (fun hr => hr (.inl x) (by simp)) (fun p e R s m args below meth cd H locs cells slots LS QQ hC hr hh hk => lv_i2l hC.1 hC.2.1 hd (by
    have h9 : pm_R x := hr (.inl x) (by simp)
    apply Int64.toInt_inj.mp
    rw [Int32.toInt_toInt64, pz_int h9, Int64.toInt_ofInt]
    unfold pm_R at h9
    show x = x.bmod 18446744073709551616
    rw [Int.bmod_eq_of_le (by omega) (by omega)]) hk) h
theorem pz_long {x : Int} (h : pm_R x) : (Int64.ofInt x).toInt = x := by
  unfold pm_R at h
  rw [Int64.toInt_ofInt]
  show x.bmod 18446744073709551616 = x
  rw [Int.bmod_eq_of_le (by omega) (by omega)]
theorem z_lcmp {x y : Int} {r : List pm_V} (hs : st = .inr (.inr y) :: .inr (.inr x) :: r) (hd : decode (pm_bytes k) pc = .ok (.lcmp, 1)) (h : pz_Z G (k, pc + 1, ls, .inl (if x < y then -1 else if x = y then 0 else 1) :: r, M) Q) : pz_Z G (k, pc, ls, st, M) Q := by
  refine pz_stk (v := .inl (if x < y then -1 else if x = y then 0 else 1)) (r := [.inr (.inr y), .inr (.inr x)]) hs (fun _ => ?_) (fun p e R s m args below meth cd H locs cells slots LS QQ hC hr hh hk => W.lcmp hC.1 hC.2.1 hd ?_) h
  · show pm_R _
    unfold pm_R
    split
    · omega
    · split <;> omega
  · have hx : pm_R x := hr (.inr (.inr x)) (by simp)
    have hy : pm_R y := hr (.inr (.inr y)) (by simp)
    have e : lg_cmp (Int64.ofInt x) (Int64.ofInt y) = Int32.ofInt (if x < y then -1 else if x = y then 0 else 1) := by
      unfold lg_cmp
      by_cases h1 : x < y
      · rw [if_pos h1, if_neg (show ¬ (Int64.ofInt y < Int64.ofInt x) by rw [Int64.lt_iff_toInt_lt, pz_long hx, pz_long hy]; omega), if_neg (by rw [← Int64.toInt_inj, pz_long hx, pz_long hy]; omega)]
        rfl
      · rw [if_neg h1]
        by_cases h2 : x = y
        · subst h2
          rw [if_pos rfl, if_neg (show ¬ (Int64.ofInt x < Int64.ofInt x) by rw [Int64.lt_iff_toInt_lt]; omega), if_pos rfl]
          rfl
        · rw [if_neg h2, if_pos (show Int64.ofInt y < Int64.ofInt x by rw [Int64.lt_iff_toInt_lt, pz_long hx, pz_long hy]; omega)]
          rfl
    rw [e]
    exact hk
end PZ
