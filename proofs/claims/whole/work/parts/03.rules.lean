/-! THE RULES: pm_X at an instruction out of pm_X at the next. -/
section PMR
variable {L k pc nx len : Nat} {ls ls' : pm_L} {st : List pm_V} {M : pm_M} {Q : pm_P}
theorem x_iconst {x : Int} (hd : Jvm.ClassFile.decode (pm_bytes k) pc = .ok (.iconst x, 1)) (hr : -1 ≤ x ∧ x ≤ 5) (hn : pc + 1 = nx) (h : pm_X L (k, nx, ls, .inl x :: st, M) Q) : pm_X L (k, pc, ls, st, M) Q := by
  subst hn; exact pm_in ⟨_, _, hd, rfl, hr.1, hr.2, h⟩
theorem x_bipush {x : Int} (hd : Jvm.ClassFile.decode (pm_bytes k) pc = .ok (.bipush x, 2)) (hr : -128 ≤ x ∧ x ≤ 127) (hn : pc + 2 = nx) (h : pm_X L (k, nx, ls, .inl x :: st, M) Q) : pm_X L (k, pc, ls, st, M) Q := by
  subst hn; exact pm_in ⟨_, _, hd, rfl, hr.1, hr.2, h⟩
theorem x_sipush {x : Int} (hd : Jvm.ClassFile.decode (pm_bytes k) pc = .ok (.sipush x, 3)) (hr : -32768 ≤ x ∧ x ≤ 32767) (hn : pc + 3 = nx) (h : pm_X L (k, nx, ls, .inl x :: st, M) Q) : pm_X L (k, pc, ls, st, M) Q := by
  subst hn; exact pm_in ⟨_, _, hd, rfl, hr.1, hr.2, h⟩
theorem x_lconst {x : Fin 2} {y : Int} (hd : Jvm.ClassFile.decode (pm_bytes k) pc = .ok (.lconst x, 1)) (hr : (x.val : Int) = y) (hn : pc + 1 = nx) (h : pm_X L (k, nx, ls, .inr (.inr y) :: st, M) Q) : pm_X L (k, pc, ls, st, M) Q := by
  subst hn; subst hr; exact pm_in ⟨_, _, hd, rfl, h⟩
theorem x_iload_n {n : Fin 4} {x : Int} (hd : Jvm.ClassFile.decode (pm_bytes k) pc = .ok (.iload_n n, 1)) (hl : ls[n.val]? = some (some (.inl x))) (hn : pc + 1 = nx) (h : pm_X L (k, nx, ls, .inl x :: st, M) Q) : pm_X L (k, pc, ls, st, M) Q := by
  subst hn; exact pm_in ⟨_, _, hd, rfl, x, hl, h⟩
theorem x_iload {n : Nat} {x : Int} (hd : Jvm.ClassFile.decode (pm_bytes k) pc = .ok (.iload n, 2)) (hl : ls[n]? = some (some (.inl x))) (hn : pc + 2 = nx) (h : pm_X L (k, nx, ls, .inl x :: st, M) Q) : pm_X L (k, pc, ls, st, M) Q := by
  subst hn; exact pm_in ⟨_, _, hd, rfl, x, hl, h⟩
theorem x_aload_n {n : Fin 4} {x : Nat} (hd : Jvm.ClassFile.decode (pm_bytes k) pc = .ok (.aload_n n, 1)) (hl : ls[n.val]? = some (some (.inr (.inl x)))) (hn : pc + 1 = nx) (h : pm_X L (k, nx, ls, .inr (.inl x) :: st, M) Q) : pm_X L (k, pc, ls, st, M) Q := by
  subst hn; exact pm_in ⟨_, _, hd, rfl, x, hl, h⟩
theorem x_aload {n : Nat} {x : Nat} (hd : Jvm.ClassFile.decode (pm_bytes k) pc = .ok (.aload n, 2)) (hl : ls[n]? = some (some (.inr (.inl x)))) (hn : pc + 2 = nx) (h : pm_X L (k, nx, ls, .inr (.inl x) :: st, M) Q) : pm_X L (k, pc, ls, st, M) Q := by
  subst hn; exact pm_in ⟨_, _, hd, rfl, x, hl, h⟩
theorem x_istore_n {n : Fin 4} {x : Int} (hd : Jvm.ClassFile.decode (pm_bytes k) pc = .ok (.istore_n n, 1)) (hl : n.val < ls.length) (hs : ls.set n.val (some (.inl x)) = ls') (hn : pc + 1 = nx) (h : pm_X L (k, nx, ls', st, M) Q) : pm_X L (k, pc, ls, .inl x :: st, M) Q := by
  subst hn; subst hs; exact pm_in ⟨_, _, hd, rfl, x, st, rfl, hl, h⟩
theorem x_istore {n : Nat} {x : Int} (hd : Jvm.ClassFile.decode (pm_bytes k) pc = .ok (.istore n, 2)) (hl : n < ls.length) (hs : ls.set n (some (.inl x)) = ls') (hn : pc + 2 = nx) (h : pm_X L (k, nx, ls', st, M) Q) : pm_X L (k, pc, ls, .inl x :: st, M) Q := by
  subst hn; subst hs; exact pm_in ⟨_, _, hd, rfl, x, st, rfl, hl, h⟩
theorem x_iinc {n : Nat} {x d : Int} (hd : Jvm.ClassFile.decode (pm_bytes k) pc = .ok (.iinc n d, 3)) (hl : ls[n]? = some (some (.inl x))) (hr : -128 ≤ d ∧ d ≤ 127) (hs : ls.set n (some (.inl (x + d))) = ls') (hn : pc + 3 = nx) (hq : pm_R (x + d)) (h : pm_X L (k, nx, ls', st, M) Q) : pm_X L (k, pc, ls, st, M) Q := by
  subst hn; subst hs; exact pm_in ⟨_, _, hd, rfl, x, hl, hr.1, hr.2, hq, h⟩
theorem x_iadd {x y : Int} (hd : Jvm.ClassFile.decode (pm_bytes k) pc = .ok (.iadd, 1)) (hn : pc + 1 = nx) (hq : pm_R (x + y)) (h : pm_X L (k, nx, ls, .inl (x + y) :: st, M) Q) : pm_X L (k, pc, ls, .inl y :: .inl x :: st, M) Q := by
  subst hn; exact pm_in ⟨_, _, hd, rfl, x, y, st, rfl, hq, h⟩
theorem x_isub {x y : Int} (hd : Jvm.ClassFile.decode (pm_bytes k) pc = .ok (.isub, 1)) (hn : pc + 1 = nx) (hq : pm_R (x - y)) (h : pm_X L (k, nx, ls, .inl (x - y) :: st, M) Q) : pm_X L (k, pc, ls, .inl y :: .inl x :: st, M) Q := by
  subst hn; exact pm_in ⟨_, _, hd, rfl, x, y, st, rfl, hq, h⟩
theorem x_imul {x y : Int} (hd : Jvm.ClassFile.decode (pm_bytes k) pc = .ok (.imul, 1)) (hn : pc + 1 = nx) (hq : pm_R (x * y)) (h : pm_X L (k, nx, ls, .inl (x * y) :: st, M) Q) : pm_X L (k, pc, ls, .inl y :: .inl x :: st, M) Q := by
  subst hn; exact pm_in ⟨_, _, hd, rfl, x, y, st, rfl, hq, h⟩
theorem x_iand1 {x : Int} (hd : Jvm.ClassFile.decode (pm_bytes k) pc = .ok (.iand, 1)) (hn : pc + 1 = nx) (h : pm_X L (k, nx, ls, .inl (x % 2) :: st, M) Q) : pm_X L (k, pc, ls, .inl 1 :: .inl x :: st, M) Q := by
  subst hn; exact pm_in ⟨_, _, hd, rfl, x, 1, st, rfl, .inl rfl, h⟩
theorem x_iand15 {x : Int} (hd : Jvm.ClassFile.decode (pm_bytes k) pc = .ok (.iand, 1)) (hn : pc + 1 = nx) (h : pm_X L (k, nx, ls, .inl (x % 16) :: st, M) Q) : pm_X L (k, pc, ls, .inl 15 :: .inl x :: st, M) Q := by
  subst hn; exact pm_in ⟨_, _, hd, rfl, x, 15, st, rfl, .inr rfl, h⟩
theorem x_ixor {x : Int} (hd : Jvm.ClassFile.decode (pm_bytes k) pc = .ok (.ixor, 1)) (hn : pc + 1 = nx) (h : pm_X L (k, nx, ls, .inl (pm_op x) :: st, M) Q) : pm_X L (k, pc, ls, .inl 1 :: .inl x :: st, M) Q := by
  subst hn; exact pm_in ⟨_, _, hd, rfl, x, st, rfl, h⟩
theorem x_ishr {x : Int} (hd : Jvm.ClassFile.decode (pm_bytes k) pc = .ok (.ishr, 1)) (hn : pc + 1 = nx) (h : pm_X L (k, nx, ls, .inl (x / 2) :: st, M) Q) : pm_X L (k, pc, ls, .inl 1 :: .inl x :: st, M) Q := by
  subst hn; exact pm_in ⟨_, _, hd, rfl, x, st, rfl, h⟩
theorem x_i2l {x : Int} (hd : Jvm.ClassFile.decode (pm_bytes k) pc = .ok (.i2l, 1)) (hn : pc + 1 = nx) (h : pm_X L (k, nx, ls, .inr (.inr x) :: st, M) Q) : pm_X L (k, pc, ls, .inl x :: st, M) Q := by
  subst hn; exact pm_in ⟨_, _, hd, rfl, x, st, rfl, h⟩
theorem x_lcmp {x y : Int} (hd : Jvm.ClassFile.decode (pm_bytes k) pc = .ok (.lcmp, 1)) (hn : pc + 1 = nx) (h : pm_X L (k, nx, ls, .inl (if x < y then -1 else if x = y then 0 else 1) :: st, M) Q) : pm_X L (k, pc, ls, .inr (.inr y) :: .inr (.inr x) :: st, M) Q := by
  subst hn; exact pm_in ⟨_, _, hd, rfl, x, y, st, rfl, h⟩
theorem x_getr {index ci j c q : Nat} {fs : List (Nat ⊕ Bool)} (hd : Jvm.ClassFile.decode (pm_bytes k) pc = .ok (.getfield index, 3)) (hf : (pm_own k, index, ci, j) ∈ pm_fld) (hc : (pm_cells L)[c]? = some (.inr (ci, fs))) (hj : fs[j]? = some (.inl q)) (hn : pc + 3 = nx)
    (h : pm_X L (k, nx, ls, .inr (.inl q) :: st, M) Q) : pm_X L (k, pc, ls, .inr (.inl c) :: st, M) Q := by
  subst hn; exact pm_in ⟨_, _, hd, rfl, ci, j, c, st, fs, _, hf, rfl, hc, hj, h⟩
theorem x_geti {index ci j c : Nat} {v : Int} {b : Bool} {fs : List (Nat ⊕ Bool)} (hd : Jvm.ClassFile.decode (pm_bytes k) pc = .ok (.getfield index, 3)) (hf : (pm_own k, index, ci, j) ∈ pm_fld) (hc : (pm_cells L)[c]? = some (.inr (ci, fs))) (hj : fs[j]? = some (.inr b)) (hv : M c j = v) (hn : pc + 3 = nx)
    (h : pm_X L (k, nx, ls, .inl v :: st, M) Q) : pm_X L (k, pc, ls, .inr (.inl c) :: st, M) Q := by
  subst hn; subst hv; exact pm_in ⟨_, _, hd, rfl, ci, j, c, st, fs, _, hf, rfl, hc, hj, h⟩
theorem x_puti {index ci j c : Nat} {x : Int} {fs : List (Nat ⊕ Bool)} (hd : Jvm.ClassFile.decode (pm_bytes k) pc = .ok (.putfield index, 3)) (hf : (pm_own k, index, ci, j) ∈ pm_fld) (hc : (pm_cells L)[c]? = some (.inr (ci, fs))) (hj : fs[j]? = some (.inr false)) (hn : pc + 3 = nx)
    (h : pm_X L (k, nx, ls, st, pm_set M c j x) Q) : pm_X L (k, pc, ls, .inl x :: .inr (.inl c) :: st, M) Q := by
  subst hn; exact pm_in ⟨_, _, hd, rfl, ci, j, c, x, st, fs, false, hf, rfl, hc, hj, (fun z => by cases z), h⟩
theorem x_putz {index ci j c : Nat} {x : Int} {fs : List (Nat ⊕ Bool)} (hd : Jvm.ClassFile.decode (pm_bytes k) pc = .ok (.putfield index, 3)) (hf : (pm_own k, index, ci, j) ∈ pm_fld) (hc : (pm_cells L)[c]? = some (.inr (ci, fs))) (hj : fs[j]? = some (.inr true)) (hn : pc + 3 = nx)
    (hq : pm_bit x) (h : pm_X L (k, nx, ls, st, pm_set M c j x) Q) : pm_X L (k, pc, ls, .inl x :: .inr (.inl c) :: st, M) Q := by
  subst hn; exact pm_in ⟨_, _, hd, rfl, ci, j, c, x, st, fs, true, hf, rfl, hc, hj, fun _ => hq, h⟩
theorem x_iaload {i v : Int} {c n : Nat} (hd : Jvm.ClassFile.decode (pm_bytes k) pc = .ok (.iaload, 1)) (hc : (pm_cells L)[c]? = some (.inl (0, n))) (hv : M c i = v) (hn : pc + 1 = nx) (hq : 0 ≤ i ∧ i < n) (h : pm_X L (k, nx, ls, .inl v :: st, M) Q) : pm_X L (k, pc, ls, .inl i :: .inr (.inl c) :: st, M) Q := by
  subst hn; subst hv; exact pm_in ⟨_, _, hd, rfl, i, c, st, rfl, ⟨n, hc, hq⟩, h⟩
theorem x_baload {i v : Int} {c n : Nat} (hd : Jvm.ClassFile.decode (pm_bytes k) pc = .ok (.baload, 1)) (hc : (pm_cells L)[c]? = some (.inl (1, n))) (hv : M c i = v) (hn : pc + 1 = nx) (hq : 0 ≤ i ∧ i < n) (h : pm_X L (k, nx, ls, .inl v :: st, M) Q) : pm_X L (k, pc, ls, .inl i :: .inr (.inl c) :: st, M) Q := by
  subst hn; subst hv; exact pm_in ⟨_, _, hd, rfl, i, c, st, rfl, ⟨n, hc, hq⟩, h⟩
theorem x_laload {i v : Int} {c n : Nat} (hd : Jvm.ClassFile.decode (pm_bytes k) pc = .ok (.laload, 1)) (hc : (pm_cells L)[c]? = some (.inl (2, n))) (hv : M c i = v) (hn : pc + 1 = nx) (hq : 0 ≤ i ∧ i < n) (h : pm_X L (k, nx, ls, .inr (.inr v) :: st, M) Q) : pm_X L (k, pc, ls, .inl i :: .inr (.inl c) :: st, M) Q := by
  subst hn; subst hv; exact pm_in ⟨_, _, hd, rfl, i, c, st, rfl, ⟨n, hc, hq⟩, h⟩
theorem x_iastore {x i : Int} {c n : Nat} (hd : Jvm.ClassFile.decode (pm_bytes k) pc = .ok (.iastore, 1)) (hc : (pm_cells L)[c]? = some (.inl (0, n))) (hn : pc + 1 = nx) (hq : 0 ≤ i ∧ i < n) (h : pm_X L (k, nx, ls, st, pm_set M c i x) Q) (hne : c ≠ 35 := by decide) : pm_X L (k, pc, ls, .inl x :: .inl i :: .inr (.inl c) :: st, M) Q := by
  subst hn; exact pm_in ⟨_, _, hd, rfl, x, i, c, st, rfl, ⟨n, hc, hq⟩, hne, h⟩
theorem x_bastore {x i : Int} {c n : Nat} (hd : Jvm.ClassFile.decode (pm_bytes k) pc = .ok (.bastore, 1)) (hc : (pm_cells L)[c]? = some (.inl (1, n))) (hn : pc + 1 = nx) (hq : (0 ≤ i ∧ i < n) ∧ pm_bit x) (h : pm_X L (k, nx, ls, st, pm_set M c i x) Q) : pm_X L (k, pc, ls, .inl x :: .inl i :: .inr (.inl c) :: st, M) Q := by
  subst hn; exact pm_in ⟨_, _, hd, rfl, x, i, c, st, rfl, ⟨n, hc, hq.1⟩, hq.2, h⟩
theorem x_lastore {x i : Int} {c n : Nat} (hd : Jvm.ClassFile.decode (pm_bytes k) pc = .ok (.lastore, 1)) (hc : (pm_cells L)[c]? = some (.inl (2, n))) (hn : pc + 1 = nx) (hq : 0 ≤ i ∧ i < n) (h : pm_X L (k, nx, ls, st, pm_set M c i x) Q) : pm_X L (k, pc, ls, .inr (.inr x) :: .inl i :: .inr (.inl c) :: st, M) Q := by
  subst hn; exact pm_in ⟨_, _, hd, rfl, x, i, c, st, rfl, ⟨n, hc, hq⟩, h⟩
theorem x_alen {c n : Nat} (hd : Jvm.ClassFile.decode (pm_bytes k) pc = .ok (.arraylength, 1)) (hc : (pm_cells L)[c]? = some (.inl (0, n))) (hn : pc + 1 = nx) (hq : n ≤ 100000) (h : pm_X L (k, nx, ls, .inl n :: st, M) Q) : pm_X L (k, pc, ls, .inr (.inl c) :: st, M) Q := by
  subst hn; exact pm_in ⟨_, _, hd, rfl, c, st, n, rfl, hc, hq, h⟩
theorem x_dup {v : pm_V} (hd : Jvm.ClassFile.decode (pm_bytes k) pc = .ok (.dup, 1)) (hv : pm_is1 v = true) (hn : pc + 1 = nx) (h : pm_X L (k, nx, ls, v :: v :: st, M) Q) : pm_X L (k, pc, ls, v :: st, M) Q := by
  subst hn; exact pm_in ⟨_, _, hd, rfl, v, st, rfl, hv, h⟩
theorem x_dup_x1 {v w : pm_V} (hd : Jvm.ClassFile.decode (pm_bytes k) pc = .ok (.dup_x1, 1)) (hv : pm_is1 v = true) (hw : pm_is1 w = true) (hn : pc + 1 = nx) (h : pm_X L (k, nx, ls, v :: w :: v :: st, M) Q) : pm_X L (k, pc, ls, v :: w :: st, M) Q := by
  subst hn; exact pm_in ⟨_, _, hd, rfl, v, w, st, rfl, hv, hw, h⟩
theorem x_pop {v : pm_V} (hd : Jvm.ClassFile.decode (pm_bytes k) pc = .ok (.pop, 1)) (hv : pm_is1 v = true) (hn : pc + 1 = nx) (h : pm_X L (k, nx, ls, st, M) Q) : pm_X L (k, pc, ls, v :: st, M) Q := by
  subst hn; exact pm_in ⟨_, _, hd, rfl, v, st, rfl, hv, h⟩
theorem x_if {x : Int} {c : Jvm.ClassFile.Cond} {off : Int} {t : Nat} {C : Prop} (hd : Jvm.ClassFile.decode (pm_bytes k) pc = .ok (.ifCond c off, 3)) (ht : (pc : Int) + off = t) (hC : pm_cmp c x 0 ↔ C) (hn : pc + 3 = nx)
    (h : (C → pm_X L (k, t, ls, st, M) Q) ∧ (¬ C → pm_X L (k, nx, ls, st, M) Q)) : pm_X L (k, pc, ls, .inl x :: st, M) Q := by
  subst hn; exact pm_in ⟨_, _, hd, rfl, x, st, t, rfl, ht, fun z => h.1 (hC.mp z), fun z => h.2 (fun y => z (hC.mpr y))⟩
theorem x_icmp {x y : Int} {c : Jvm.ClassFile.Cond} {off : Int} {t : Nat} {C : Prop} (hd : Jvm.ClassFile.decode (pm_bytes k) pc = .ok (.if_icmp c off, 3)) (ht : (pc : Int) + off = t) (hC : pm_cmp c x y ↔ C) (hn : pc + 3 = nx)
    (h : (C → pm_X L (k, t, ls, st, M) Q) ∧ (¬ C → pm_X L (k, nx, ls, st, M) Q)) : pm_X L (k, pc, ls, .inl y :: .inl x :: st, M) Q := by
  subst hn; exact pm_in ⟨_, _, hd, rfl, x, y, st, t, rfl, ht, fun z => h.1 (hC.mp z), fun z => h.2 (fun y => z (hC.mpr y))⟩
theorem x_ifT {x : Int} {c : Jvm.ClassFile.Cond} {off : Int} {t : Nat} (hd : Jvm.ClassFile.decode (pm_bytes k) pc = .ok (.ifCond c off, 3)) (ht : (pc : Int) + off = t) (hC : pm_cmp c x 0) (h : pm_X L (k, t, ls, st, M) Q) : pm_X L (k, pc, ls, .inl x :: st, M) Q :=
  pm_in ⟨_, _, hd, rfl, x, st, t, rfl, ht, fun _ => h, fun z => absurd hC z⟩
theorem x_ifF {x : Int} {c : Jvm.ClassFile.Cond} {off : Int} {t : Nat} (hd : Jvm.ClassFile.decode (pm_bytes k) pc = .ok (.ifCond c off, 3)) (ht : (pc : Int) + off = t) (hC : ¬ pm_cmp c x 0) (hn : pc + 3 = nx) (h : pm_X L (k, nx, ls, st, M) Q) : pm_X L (k, pc, ls, .inl x :: st, M) Q := by
  subst hn; exact pm_in ⟨_, _, hd, rfl, x, st, t, rfl, ht, fun z => absurd z hC, fun _ => h⟩
theorem x_icmpT {x y : Int} {c : Jvm.ClassFile.Cond} {off : Int} {t : Nat} (hd : Jvm.ClassFile.decode (pm_bytes k) pc = .ok (.if_icmp c off, 3)) (ht : (pc : Int) + off = t) (hC : pm_cmp c x y) (h : pm_X L (k, t, ls, st, M) Q) : pm_X L (k, pc, ls, .inl y :: .inl x :: st, M) Q :=
  pm_in ⟨_, _, hd, rfl, x, y, st, t, rfl, ht, fun _ => h, fun z => absurd hC z⟩
theorem x_icmpF {x y : Int} {c : Jvm.ClassFile.Cond} {off : Int} {t : Nat} (hd : Jvm.ClassFile.decode (pm_bytes k) pc = .ok (.if_icmp c off, 3)) (ht : (pc : Int) + off = t) (hC : ¬ pm_cmp c x y) (hn : pc + 3 = nx) (h : pm_X L (k, nx, ls, st, M) Q) : pm_X L (k, pc, ls, .inl y :: .inl x :: st, M) Q := by
  subst hn; exact pm_in ⟨_, _, hd, rfl, x, y, st, t, rfl, ht, fun z => absurd z hC, fun _ => h⟩
theorem x_goto {off : Int} {t : Nat} (hd : Jvm.ClassFile.decode (pm_bytes k) pc = .ok (.goto off, 3)) (ht : (pc : Int) + off = t) (h : pm_X L (k, t, ls, st, M) Q) : pm_X L (k, pc, ls, st, M) Q :=
  pm_in ⟨_, _, hd, rfl, t, ht, h⟩
theorem x_swO {x d lo hi : Int} {offs : Array Int} {t : Nat} (hd : Jvm.ClassFile.decode (pm_bytes k) pc = .ok (.tableswitch d lo hi offs, len)) (ht : (pc : Int) + d = t) (hx : x < lo ∨ hi < x) (h : pm_X L (k, t, ls, st, M) Q) : pm_X L (k, pc, ls, .inl x :: st, M) Q :=
  pm_in ⟨_, _, hd, trivial, x, st, rfl, fun _ => ⟨t, ht, h⟩, fun z1 z2 => absurd hx (fun z => z.elim z1 z2)⟩
theorem x_swV {x v d lo hi off : Int} {offs : Array Int} {t : Nat} (hd : Jvm.ClassFile.decode (pm_bytes k) pc = .ok (.tableswitch d lo hi offs, len)) (hx : x = v) (hb : ¬ v < lo ∧ ¬ hi < v) (ho : offs[(v - lo).toNat]? = some off) (ht : (pc : Int) + off = t) (h : pm_X L (k, t, ls, st, M) Q) : pm_X L (k, pc, ls, .inl x :: st, M) Q := by
  subst hx; exact pm_in ⟨_, _, hd, trivial, x, st, rfl, fun z => absurd z (fun z => z.elim hb.1 hb.2), fun _ _ => ⟨off, t, ho, ht, h⟩⟩
theorem x_swI {x d lo hi off : Int} {offs : Array Int} {t : Nat} (hd : Jvm.ClassFile.decode (pm_bytes k) pc = .ok (.tableswitch d lo hi offs, len)) (hx : ¬ x < lo ∧ ¬ hi < x) (ho : offs[(x - lo).toNat]? = some off) (ht : (pc : Int) + off = t) (h : pm_X L (k, t, ls, st, M) Q) : pm_X L (k, pc, ls, .inl x :: st, M) Q :=
  pm_in ⟨_, _, hd, trivial, x, st, rfl, fun z => absurd z (fun z => z.elim hx.1 hx.2), fun _ _ => ⟨off, t, ho, ht, h⟩⟩
theorem x_callv {index k' n ci c : Nat} {as rest : List pm_V} {fs : List (Nat ⊕ Bool)} (hd : Jvm.ClassFile.decode (pm_bytes k) pc = .ok (.invokevirtual index, 3)) (hc : (pm_own k, index, k', n, some ci) ∈ pm_call ∧ pm_rank k' < pm_rank k) (hst : st = (.inr (.inl c) :: as).reverse ++ rest) (hl : as.length + 1 = n) (ha : as.all pm_is1 = true) (hr : (pm_cells L)[c]? = some (.inr (ci, fs))) (hw : pm_wt rest ≤ 8) {mL : Nat} (hm : pm_mL k' = mL) (he : pm_ent mL (.inr (.inl c) :: as) = ls')
    (h : pm_X L (k', 0, ls', [], M) (pm_back (pm_X L) k pc ls rest Q)) : pm_X L (k, pc, ls, st, M) Q := by
  subst hm; subst he; exact pm_in ⟨_, _, hd, rfl, k', n, some ci, .inr (.inl c) :: as, rest, hc, rfl, hst, hl, by rw [List.all_cons, ha]; rfl, ⟨c, as, fs, rfl, hr⟩, hw, h⟩
theorem x_calls {index k' n : Nat} {as rest : List pm_V} (hd : Jvm.ClassFile.decode (pm_bytes k) pc = .ok (.invokestatic index, 3)) (hc : (pm_own k, index, k', n, none) ∈ pm_call ∧ pm_rank k' < pm_rank k) (hst : st = as.reverse ++ rest) (hl : as.length = n) (ha : as.all pm_is1 = true) (hw : pm_wt rest ≤ 8) {mL : Nat} (hm : pm_mL k' = mL) (he : pm_ent mL as = ls')
    (h : pm_X L (k', 0, ls', [], M) (pm_back (pm_X L) k pc ls rest Q)) : pm_X L (k, pc, ls, st, M) Q := by
  subst hm; subst he; exact pm_in ⟨_, _, hd, rfl, k', n, none, as, rest, hc, rfl, hst, hl, ha, trivial, hw, h⟩
/-- a call whose contract is known -/
theorem x_backv {k' : Nat} {l0 : pm_L} {rest : List pm_V} {P : pm_P} (h : pm_X L (k', 0, l0, [], M) P) (hk : ∀ (r : pm_A) (M' : pm_M), P r M' → pm_back (pm_X L) k pc ls rest Q r M') : pm_X L (k', 0, l0, [], M) (pm_back (pm_X L) k pc ls rest Q) := pm_up h hk
theorem x_bki {x : Int} {rest : List pm_V} (hn : pc + 3 = nx) (h : pm_X L (k, nx, ls, .inl x :: rest, M) Q) : pm_back (pm_X L) k pc ls rest Q (.inl (some (.inl x))) M := by
  subst hn; exact h
theorem x_bkv {rest : List pm_V} (hn : pc + 3 = nx) (h : pm_X L (k, nx, ls, rest, M) Q) : pm_back (pm_X L) k pc ls rest Q (.inl none) M := by
  subst hn; exact h
theorem x_bkt {kd : Nat} {rest : List pm_V} (hh : pm_hnd.lookup (k, pc, kd) = none) (hk : k < 86) (h : Q (.inr kd) M) : pm_back (pm_X L) k pc ls rest Q (.inr kd) M := by
  unfold pm_back; dsimp only; rw [hh]; exact ⟨hk, h⟩
theorem x_bkc {kd h0 i : Nat} {rest : List pm_V} (hh : pm_hnd.lookup (k, pc, kd) = some (h0, nx, i)) (hs : ls.set i none = ls') (h : pm_X L (k, nx, ls', [], M) Q) : pm_back (pm_X L) k pc ls rest Q (.inr kd) M := by
  subst hs; unfold pm_back; dsimp only; rw [hh]; exact h
theorem pm_get_c {a c : Nat} {b j x v : Int} (hc : ¬ a = c) (h : M a b = v) : pm_set M c j x a b = v := by
  unfold pm_set; rw [if_neg (fun z => hc z.1)]; exact h
theorem pm_get_j {a c : Nat} {b j x v : Int} (hj : ¬ b = j) (h : M a b = v) : pm_set M c j x a b = v := by
  unfold pm_set; rw [if_neg (fun z => hj z.2)]; exact h
theorem pm_get_e {c : Nat} {j x : Int} : pm_set M c j x c j = x := by
  unfold pm_set; rw [if_pos ⟨rfl, rfl⟩]
theorem x_ireti {x : Int} (hd : Jvm.ClassFile.decode (pm_bytes k) pc = .ok (.ireturn, 1)) (hr : pm_ret k = 1) (h : Q (.inl (some (.inl x))) M) : pm_X L (k, pc, ls, [.inl x], M) Q :=
  pm_in ⟨_, _, hd, rfl, x, rfl, .inl hr, h⟩
theorem x_iretz {x : Int} (hd : Jvm.ClassFile.decode (pm_bytes k) pc = .ok (.ireturn, 1)) (hr : pm_ret k = 2) (hq : pm_bit x) (h : Q (.inl (some (.inl x))) M) : pm_X L (k, pc, ls, [.inl x], M) Q :=
  pm_in ⟨_, _, hd, rfl, x, rfl, .inr ⟨hr, hq⟩, h⟩
theorem x_ret (hd : Jvm.ClassFile.decode (pm_bytes k) pc = .ok (.return_, 1)) (hr : pm_ret k = 0) (h : Q (.inl none) M) : pm_X L (k, pc, ls, [], M) Q :=
  pm_in ⟨_, _, hd, rfl, rfl, hr, h⟩
theorem x_throw {index kd sx ic : Nat} (hd : Jvm.ClassFile.decode (pm_bytes k) pc = .ok (.new index, 3)) (hc : (k, pc, index, kd, sx, ic) ∈ pm_thr) (hq : 1 ≤ M 99 0) (h : Q (.inr kd) (pm_set M 99 0 (M 99 0 - 1))) : pm_X L (k, pc, ls, [], M) Q :=
  pm_in ⟨_, _, hd, rfl, kd, sx, ic, hc, rfl, hq, h⟩
end PMR
