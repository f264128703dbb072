section
-- ===== PART A: goes FIRST, ahead of the names: the tables' words, and 'selects' of the private methods out of them =====
/-- a private method of a class that the tables say can be made, by its rows of tables_1 -/
def lw_okq (q : MethodName × Nat) : Prop := (q.1.cls ≠ "java/lang/invoke/MethodHandle" ∧ q.1.cls ≠ "java/lang/invoke/VarHandle") ∧ Cond.instantiable q.1.cls q.2 ∈ tables_1 ∧ Cond.privateMethod q.1 ∈ tables_1 ∧ Cond.instanceMethod q.1 ∈ tables_1
theorem lw_p0 : lw_okq (⟨"GateBench", "askForListWithout", "(I)V"⟩, 7) := ⟨⟨by decide +kernel, by decide +kernel⟩, List.mem_of_getElem? (i := 15) (by decide +kernel), List.mem_of_getElem? (i := 207) (by decide +kernel), List.mem_of_getElem? (i := 208) (by decide +kernel)⟩
theorem lw_p1 : lw_okq (⟨"GateBench$Circuit", "describeGate", "(ILGateBench$Clauses;)V"⟩, 8) := ⟨⟨by decide +kernel, by decide +kernel⟩, List.mem_of_getElem? (i := 23) (by decide +kernel), List.mem_of_getElem? (i := 249) (by decide +kernel), List.mem_of_getElem? (i := 250) (by decide +kernel)⟩
theorem lw_p2 : lw_okq (⟨"GateBench", "findInputs", "()Z"⟩, 7) := ⟨⟨by decide +kernel, by decide +kernel⟩, List.mem_of_getElem? (i := 15) (by decide +kernel), List.mem_of_getElem? (i := 256) (by decide +kernel), List.mem_of_getElem? (i := 257) (by decide +kernel)⟩
theorem lw_p3 : lw_okq (⟨"GateBench$Search", "takeUpClauses", "()I"⟩, 10) := ⟨⟨by decide +kernel, by decide +kernel⟩, List.mem_of_getElem? (i := 111) (by decide +kernel), List.mem_of_getElem? (i := 268) (by decide +kernel), List.mem_of_getElem? (i := 269) (by decide +kernel)⟩
theorem lw_p4 : lw_okq (⟨"GateBench$Search", "startAnew", "()V"⟩, 10) := ⟨⟨by decide +kernel, by decide +kernel⟩, List.mem_of_getElem? (i := 111) (by decide +kernel), List.mem_of_getElem? (i := 272) (by decide +kernel), List.mem_of_getElem? (i := 273) (by decide +kernel)⟩
theorem lw_p5 : lw_okq (⟨"GateBench$Trail", "cutTo", "(I)V"⟩, 6) := ⟨⟨by decide +kernel, by decide +kernel⟩, List.mem_of_getElem? (i := 117) (by decide +kernel), List.mem_of_getElem? (i := 280) (by decide +kernel), List.mem_of_getElem? (i := 281) (by decide +kernel)⟩
theorem lw_p6 : lw_okq (⟨"GateBench$Search", "watchBoth", "(I)V"⟩, 10) := ⟨⟨by decide +kernel, by decide +kernel⟩, List.mem_of_getElem? (i := 111) (by decide +kernel), List.mem_of_getElem? (i := 288) (by decide +kernel), List.mem_of_getElem? (i := 289) (by decide +kernel)⟩
theorem lw_p7 : lw_okq (⟨"GateBench$Search", "tryInputs", "()I"⟩, 10) := ⟨⟨by decide +kernel, by decide +kernel⟩, List.mem_of_getElem? (i := 111) (by decide +kernel), List.mem_of_getElem? (i := 302) (by decide +kernel), List.mem_of_getElem? (i := 303) (by decide +kernel)⟩
theorem lw_p8 : lw_okq (⟨"GateBench$Search", "followAll", "()I"⟩, 10) := ⟨⟨by decide +kernel, by decide +kernel⟩, List.mem_of_getElem? (i := 111) (by decide +kernel), List.mem_of_getElem? (i := 306) (by decide +kernel), List.mem_of_getElem? (i := 307) (by decide +kernel)⟩
theorem lw_p9 : lw_okq (⟨"GateBench$Search", "leaveFailing", "(I)I"⟩, 10) := ⟨⟨by decide +kernel, by decide +kernel⟩, List.mem_of_getElem? (i := 111) (by decide +kernel), List.mem_of_getElem? (i := 310) (by decide +kernel), List.mem_of_getElem? (i := 311) (by decide +kernel)⟩
theorem lw_p10 : lw_okq (⟨"GateBench$Search", "placeToWatch", "(I)I"⟩, 10) := ⟨⟨by decide +kernel, by decide +kernel⟩, List.mem_of_getElem? (i := 111) (by decide +kernel), List.mem_of_getElem? (i := 314) (by decide +kernel), List.mem_of_getElem? (i := 315) (by decide +kernel)⟩
theorem lw_p11 : lw_okq (⟨"GateBench$Search", "moveWatch", "(II)V"⟩, 10) := ⟨⟨by decide +kernel, by decide +kernel⟩, List.mem_of_getElem? (i := 111) (by decide +kernel), List.mem_of_getElem? (i := 318) (by decide +kernel), List.mem_of_getElem? (i := 319) (by decide +kernel)⟩
theorem lw_p12 : lw_okq (⟨"GateBench$Search", "unlink", "(III)V"⟩, 10) := ⟨⟨by decide +kernel, by decide +kernel⟩, List.mem_of_getElem? (i := 111) (by decide +kernel), List.mem_of_getElem? (i := 322) (by decide +kernel), List.mem_of_getElem? (i := 323) (by decide +kernel)⟩
theorem lw_p13 : lw_okq (⟨"GateBench$Search", "learn", "(I)I"⟩, 10) := ⟨⟨by decide +kernel, by decide +kernel⟩, List.mem_of_getElem? (i := 111) (by decide +kernel), List.mem_of_getElem? (i := 332) (by decide +kernel), List.mem_of_getElem? (i := 333) (by decide +kernel)⟩
theorem lw_p14 : lw_okq (⟨"GateBench$Search", "involve", "(I)V"⟩, 10) := ⟨⟨by decide +kernel, by decide +kernel⟩, List.mem_of_getElem? (i := 111) (by decide +kernel), List.mem_of_getElem? (i := 336) (by decide +kernel), List.mem_of_getElem? (i := 337) (by decide +kernel)⟩
theorem lw_p15 : lw_okq (⟨"GateBench$Search", "collectHints", "(I)V"⟩, 10) := ⟨⟨by decide +kernel, by decide +kernel⟩, List.mem_of_getElem? (i := 111) (by decide +kernel), List.mem_of_getElem? (i := 343) (by decide +kernel), List.mem_of_getElem? (i := 344) (by decide +kernel)⟩
def lw_privs_1 : List (MethodName × Nat) := [(⟨"GateBench", "askForListWithout", "(I)V"⟩, 7), (⟨"GateBench$Circuit", "describeGate", "(ILGateBench$Clauses;)V"⟩, 8), (⟨"GateBench", "findInputs", "()Z"⟩, 7), (⟨"GateBench$Search", "takeUpClauses", "()I"⟩, 10), (⟨"GateBench$Search", "startAnew", "()V"⟩, 10), (⟨"GateBench$Trail", "cutTo", "(I)V"⟩, 6), (⟨"GateBench$Search", "watchBoth", "(I)V"⟩, 10), (⟨"GateBench$Search", "tryInputs", "()I"⟩, 10), (⟨"GateBench$Search", "followAll", "()I"⟩, 10), (⟨"GateBench$Search", "leaveFailing", "(I)I"⟩, 10), (⟨"GateBench$Search", "placeToWatch", "(I)I"⟩, 10), (⟨"GateBench$Search", "moveWatch", "(II)V"⟩, 10), (⟨"GateBench$Search", "unlink", "(III)V"⟩, 10), (⟨"GateBench$Search", "learn", "(I)I"⟩, 10), (⟨"GateBench$Search", "involve", "(I)V"⟩, 10), (⟨"GateBench$Search", "collectHints", "(I)V"⟩, 10)]
theorem lw_r1 : ∀ q ∈ lw_privs_1, lw_okq q := List.forall_mem_cons.mpr ⟨lw_p0, List.forall_mem_cons.mpr ⟨lw_p1, List.forall_mem_cons.mpr ⟨lw_p2, List.forall_mem_cons.mpr ⟨lw_p3, List.forall_mem_cons.mpr ⟨lw_p4, List.forall_mem_cons.mpr ⟨lw_p5, List.forall_mem_cons.mpr ⟨lw_p6, List.forall_mem_cons.mpr ⟨lw_p7, List.forall_mem_cons.mpr ⟨lw_p8, List.forall_mem_cons.mpr ⟨lw_p9, List.forall_mem_cons.mpr ⟨lw_p10, List.forall_mem_cons.mpr ⟨lw_p11, List.forall_mem_cons.mpr ⟨lw_p12, List.forall_mem_cons.mpr ⟨lw_p13, List.forall_mem_cons.mpr ⟨lw_p14, List.forall_mem_cons.mpr ⟨lw_p15, fun _ h => absurd h List.not_mem_nil⟩⟩⟩⟩⟩⟩⟩⟩⟩⟩⟩⟩⟩⟩⟩⟩
theorem lw_p16 : lw_okq (⟨"GateBench$Checker", "follows", "(I[II)Z"⟩, 5) := ⟨⟨by decide +kernel, by decide +kernel⟩, List.mem_of_getElem? (i := 89) (by decide +kernel), List.mem_of_getElem? (i := 351) (by decide +kernel), List.mem_of_getElem? (i := 352) (by decide +kernel)⟩
theorem lw_p17 : lw_okq (⟨"GateBench$Checker", "literalLeft", "(I)I"⟩, 5) := ⟨⟨by decide +kernel, by decide +kernel⟩, List.mem_of_getElem? (i := 89) (by decide +kernel), List.mem_of_getElem? (i := 355) (by decide +kernel), List.mem_of_getElem? (i := 356) (by decide +kernel)⟩
theorem lw_p18 : lw_okq (⟨"GateBench$Search", "applyLesson", "(I)V"⟩, 10) := ⟨⟨by decide +kernel, by decide +kernel⟩, List.mem_of_getElem? (i := 111) (by decide +kernel), List.mem_of_getElem? (i := 361) (by decide +kernel), List.mem_of_getElem? (i := 362) (by decide +kernel)⟩
theorem lw_p19 : lw_okq (⟨"GateBench", "takeInputsFound", "()V"⟩, 7) := ⟨⟨by decide +kernel, by decide +kernel⟩, List.mem_of_getElem? (i := 15) (by decide +kernel), List.mem_of_getElem? (i := 373) (by decide +kernel), List.mem_of_getElem? (i := 374) (by decide +kernel)⟩
theorem lw_p20 : lw_okq (⟨"GateBench", "dropWanted", "(I)V"⟩, 7) := ⟨⟨by decide +kernel, by decide +kernel⟩, List.mem_of_getElem? (i := 15) (by decide +kernel), List.mem_of_getElem? (i := 385) (by decide +kernel), List.mem_of_getElem? (i := 386) (by decide +kernel)⟩
theorem lw_p21 : lw_okq (⟨"java/lang/Throwable", "fillInStackTrace", "(I)Ljava/lang/Throwable;"⟩, 6) := ⟨⟨by decide +kernel, by decide +kernel⟩, List.mem_of_getElem? (i := 443) (by decide +kernel), List.mem_of_getElem? (i := 441) (by decide +kernel), List.mem_of_getElem? (i := 442) (by decide +kernel)⟩
theorem lw_p22 : lw_okq (⟨"GateBench", "requireRoom", "()V"⟩, 7) := ⟨⟨by decide +kernel, by decide +kernel⟩, List.mem_of_getElem? (i := 15) (by decide +kernel), List.mem_of_getElem? (i := 473) (by decide +kernel), List.mem_of_getElem? (i := 474) (by decide +kernel)⟩
theorem lw_p23 : lw_okq (⟨"GateBench", "requireFormula", "(I)V"⟩, 7) := ⟨⟨by decide +kernel, by decide +kernel⟩, List.mem_of_getElem? (i := 15) (by decide +kernel), List.mem_of_getElem? (i := 494) (by decide +kernel), List.mem_of_getElem? (i := 495) (by decide +kernel)⟩
theorem lw_p24 : lw_okq (⟨"GateBench", "askForDifference", "(II)V"⟩, 7) := ⟨⟨by decide +kernel, by decide +kernel⟩, List.mem_of_getElem? (i := 15) (by decide +kernel), List.mem_of_getElem? (i := 570) (by decide +kernel), List.mem_of_getElem? (i := 571) (by decide +kernel)⟩
theorem lw_p25 : lw_okq (⟨"GateBench$Circuit", "isTrue", "(I)Z"⟩, 8) := ⟨⟨by decide +kernel, by decide +kernel⟩, List.mem_of_getElem? (i := 23) (by decide +kernel), List.mem_of_getElem? (i := 593) (by decide +kernel), List.mem_of_getElem? (i := 594) (by decide +kernel)⟩
theorem lw_p26 : lw_okq (⟨"GateBenchModel", "refuse", "(IZ)Z"⟩, 13) := ⟨⟨by decide +kernel, by decide +kernel⟩, List.mem_of_getElem? (i := 597) (by decide +kernel), List.mem_of_getElem? (i := 651) (by decide +kernel), List.mem_of_getElem? (i := 652) (by decide +kernel)⟩
theorem lw_p27 : lw_okq (⟨"GateBenchModel", "make", "(IIII)I"⟩, 13) := ⟨⟨by decide +kernel, by decide +kernel⟩, List.mem_of_getElem? (i := 597) (by decide +kernel), List.mem_of_getElem? (i := 655) (by decide +kernel), List.mem_of_getElem? (i := 656) (by decide +kernel)⟩
theorem lw_p28 : lw_okq (⟨"GateBenchModel", "none", "(I)Z"⟩, 13) := ⟨⟨by decide +kernel, by decide +kernel⟩, List.mem_of_getElem? (i := 597) (by decide +kernel), List.mem_of_getElem? (i := 663) (by decide +kernel), List.mem_of_getElem? (i := 664) (by decide +kernel)⟩
theorem lw_p29 : lw_okq (⟨"GateBenchModel", "some", "([II)Z"⟩, 13) := ⟨⟨by decide +kernel, by decide +kernel⟩, List.mem_of_getElem? (i := 597) (by decide +kernel), List.mem_of_getElem? (i := 687) (by decide +kernel), List.mem_of_getElem? (i := 688) (by decide +kernel)⟩
theorem lw_p30 : lw_okq (⟨"GateBenchModel", "begin", "()V"⟩, 13) := ⟨⟨by decide +kernel, by decide +kernel⟩, List.mem_of_getElem? (i := 597) (by decide +kernel), List.mem_of_getElem? (i := 691) (by decide +kernel), List.mem_of_getElem? (i := 692) (by decide +kernel)⟩
theorem lw_p31 : lw_okq (⟨"GateBenchModel", "workOut", "()V"⟩, 13) := ⟨⟨by decide +kernel, by decide +kernel⟩, List.mem_of_getElem? (i := 597) (by decide +kernel), List.mem_of_getElem? (i := 695) (by decide +kernel), List.mem_of_getElem? (i := 696) (by decide +kernel)⟩
def lw_privs_2 : List (MethodName × Nat) := [(⟨"GateBench$Checker", "follows", "(I[II)Z"⟩, 5), (⟨"GateBench$Checker", "literalLeft", "(I)I"⟩, 5), (⟨"GateBench$Search", "applyLesson", "(I)V"⟩, 10), (⟨"GateBench", "takeInputsFound", "()V"⟩, 7), (⟨"GateBench", "dropWanted", "(I)V"⟩, 7), (⟨"java/lang/Throwable", "fillInStackTrace", "(I)Ljava/lang/Throwable;"⟩, 6), (⟨"GateBench", "requireRoom", "()V"⟩, 7), (⟨"GateBench", "requireFormula", "(I)V"⟩, 7), (⟨"GateBench", "askForDifference", "(II)V"⟩, 7), (⟨"GateBench$Circuit", "isTrue", "(I)Z"⟩, 8), (⟨"GateBenchModel", "refuse", "(IZ)Z"⟩, 13), (⟨"GateBenchModel", "make", "(IIII)I"⟩, 13), (⟨"GateBenchModel", "none", "(I)Z"⟩, 13), (⟨"GateBenchModel", "some", "([II)Z"⟩, 13), (⟨"GateBenchModel", "begin", "()V"⟩, 13), (⟨"GateBenchModel", "workOut", "()V"⟩, 13)]
theorem lw_r2 : ∀ q ∈ lw_privs_2, lw_okq q := List.forall_mem_cons.mpr ⟨lw_p16, List.forall_mem_cons.mpr ⟨lw_p17, List.forall_mem_cons.mpr ⟨lw_p18, List.forall_mem_cons.mpr ⟨lw_p19, List.forall_mem_cons.mpr ⟨lw_p20, List.forall_mem_cons.mpr ⟨lw_p21, List.forall_mem_cons.mpr ⟨lw_p22, List.forall_mem_cons.mpr ⟨lw_p23, List.forall_mem_cons.mpr ⟨lw_p24, List.forall_mem_cons.mpr ⟨lw_p25, List.forall_mem_cons.mpr ⟨lw_p26, List.forall_mem_cons.mpr ⟨lw_p27, List.forall_mem_cons.mpr ⟨lw_p28, List.forall_mem_cons.mpr ⟨lw_p29, List.forall_mem_cons.mpr ⟨lw_p30, List.forall_mem_cons.mpr ⟨lw_p31, fun _ h => absurd h List.not_mem_nil⟩⟩⟩⟩⟩⟩⟩⟩⟩⟩⟩⟩⟩⟩⟩⟩
theorem lw_p32 : lw_okq (⟨"GateBenchModel", "advance", "()Z"⟩, 13) := ⟨⟨by decide +kernel, by decide +kernel⟩, List.mem_of_getElem? (i := 597) (by decide +kernel), List.mem_of_getElem? (i := 699) (by decide +kernel), List.mem_of_getElem? (i := 700) (by decide +kernel)⟩
theorem lw_p33 : lw_okq (⟨"GateBenchModel", "back", "()V"⟩, 13) := ⟨⟨by decide +kernel, by decide +kernel⟩, List.mem_of_getElem? (i := 597) (by decide +kernel), List.mem_of_getElem? (i := 703) (by decide +kernel), List.mem_of_getElem? (i := 704) (by decide +kernel)⟩
def lw_privs_3 : List (MethodName × Nat) := [(⟨"GateBenchModel", "advance", "()Z"⟩, 13), (⟨"GateBenchModel", "back", "()V"⟩, 13)]
theorem lw_r3 : ∀ q ∈ lw_privs_3, lw_okq q := List.forall_mem_cons.mpr ⟨lw_p32, List.forall_mem_cons.mpr ⟨lw_p33, fun _ h => absurd h List.not_mem_nil⟩⟩
def lw_privs : List (MethodName × Nat) := lw_privs_1 ++ (lw_privs_2 ++ (lw_privs_3))
def lw_tbl : List Cond := k2_sels lw_privs ++ tables_1
theorem lw_privs_ok : ∀ q ∈ lw_privs, lw_okq q := by
  show ∀ q ∈ lw_privs_1 ++ (lw_privs_2 ++ (lw_privs_3)), lw_okq q
  exact List.forall_mem_append.mpr ⟨lw_r1, List.forall_mem_append.mpr ⟨lw_r2, lw_r3⟩⟩
-- ===== end of PART A; then your names; then what follows =====
end
section
/-! THE PURE MACHINE: what the methods do, over a memory of whole numbers. Cells have fixed numbers; memory: cell, place, number. -/
abbrev pm_V : Type := Int ⊕ (Nat ⊕ Int)
abbrev pm_M : Type := Nat → Int → Int
abbrev pm_L : Type := List (Option pm_V)
/-- a cell: an array (kind 0 int, 1 boolean, 2 long; its length), or an object (its kind; its fields: a cell, or a number: is it a boolean) -/
abbrev pm_D : Type := (Nat × Nat) ⊕ (Nat × List (Nat ⊕ Bool))
/-- method, pc, locals, operand stack, memory -/
abbrev pm_C : Type := Nat × Nat × pm_L × List pm_V × pm_M
/-- an answer: it returned (with what), or threw (which kind) -/
abbrev pm_A : Type := Option pm_V ⊕ Nat
abbrev pm_P : Type := pm_A → pm_M → Prop
def pm_R (x : Int) : Prop := -2147483648 ≤ x ∧ x ≤ 2147483647
def pm_set (M : pm_M) (c : Nat) (j x : Int) : pm_M := fun a b => if a = c ∧ b = j then x else M a b
/-- the opposite: one flipped bit -/
def pm_op (x : Int) : Int := if x % 2 = 0 then x + 1 else x - 1
def pm_cmp (c : Jvm.ClassFile.Cond) (x y : Int) : Prop := match c with
  | .eq => x = y
  | .ne => ¬ x = y
  | .lt => x < y
  | .ge => y ≤ x
  | .gt => y < x
  | .le => x ≤ y
def pm_bit (x : Int) : Prop := x = 0 ∨ x = 1
def pm_is1 (v : pm_V) : Bool := match v with
  | .inr (.inr _) => false
  | _ => true
def pm_ent (n : Nat) (as : List pm_V) : pm_L := as.map some ++ List.replicate (n - as.length) none
def pm_arr (D : List pm_D) (c kd : Nat) (i : Int) : Prop := ∃ n : Nat, D[c]? = some (.inl (kd, n)) ∧ 0 ≤ i ∧ i < n
/-! THE TABLES of the pure machine, laid by wip/whole/gen/tables.py out of the listing. Kinds of objects: 0 GateBench, 1 GateBench$Circuit, 2 GateBench$Clauses, 3 GateBench$Checker, 4 GateBench$Search, 5 GateBench$Trail, 6 GateBenchModel, 7 GateBenchLaw. -/
def pm_cells (L : Nat) : List pm_D := [.inr (0, [.inl 1, .inl 2, .inl 3, .inl 4, .inl 6, .inr false, .inr false]),
  .inr (1, [.inl 7, .inl 8, .inl 9, .inl 10, .inl 11, .inl 12, .inr false, .inr false]),
  .inr (2, [.inl 13, .inl 14, .inr false, .inr false]),
  .inr (3, [.inl 2, .inl 15, .inr false, .inr false, .inr true]),
  .inr (4, [.inl 1, .inl 2, .inl 3, .inl 5, .inl 16, .inl 17, .inl 18, .inl 19, .inr false, .inr false]),
  .inr (5, [.inl 20, .inl 21, .inl 22, .inl 23, .inr false, .inr false]),
  .inl (0, 20),
  .inl (0, 2000),
  .inl (0, 2000),
  .inl (0, 2000),
  .inl (1, 2000),
  .inl (1, 2000),
  .inl (0, 12),
  .inl (0, 85212),
  .inl (0, 16117),
  .inl (0, 4000),
  .inl (0, 4000),
  .inl (0, 32232),
  .inl (1, 2000),
  .inl (0, 2001),
  .inl (1, 4000),
  .inl (0, 4000),
  .inl (0, 2000),
  .inl (0, 12),
  .inr (6, [.inr false, .inr false, .inr false, .inr false, .inl 25, .inl 26, .inl 27, .inl 28, .inl 29, .inl 30, .inl 31, .inl 32, .inl 33]),
  .inl (0, 2000),
  .inl (0, 2000),
  .inl (0, 2000),
  .inl (0, 2000),
  .inl (0, 20),
  .inl (1, 12),
  .inl (1, 12),
  .inl (1, 2000),
  .inl (0, 20),
  .inl (2, 1),
  .inl (0, L)]
def pm_codes : List (ByteArray × Nat × Nat × Nat × Nat) := [
  (prog_1_method_2_code, 0, 1, 1, 8),
  (prog_1_method_3_code, 0, 2, 1, 8),
  (prog_1_method_4_code, 0, 4, 1, 8),
  (prog_1_method_5_code, 0, 4, 1, 8),
  (prog_1_method_6_code, 0, 2, 1, 8),
  (prog_1_method_7_code, 0, 2, 1, 0),
  (prog_1_method_8_code, 0, 2, 2, 7),
  (prog_1_method_9_code, 0, 3, 1, 7),
  (prog_1_method_10_code, 0, 2, 1, 7),
  (prog_1_method_11_code, 0, 4, 2, 8),
  (prog_1_method_12_code, 0, 5, 2, 7),
  (prog_1_method_13_code, 0, 2, 2, 8),
  (prog_1_method_14_code, 0, 1, 1, 0),
  (prog_1_method_15_code, 0, 2, 1, 0),
  (prog_1_method_16_code, 0, 1, 1, 0),
  (prog_1_method_17_code, 0, 1, 1, 0),
  (prog_1_method_18_code, 0, 1, 1, 0),
  (prog_1_method_19_code, 0, 2, 0, 7),
  (prog_1_method_20_code, 0, 1, 0, 7),
  (prog_1_method_21_code, 0, 3, 0, 4),
  (prog_1_method_22_code, 0, 3, 0, 4),
  (prog_1_method_23_code, 0, 2, 2, 6),
  (prog_1_method_24_code, 0, 3, 0, 2),
  (prog_1_method_25_code, 0, 3, 0, 0),
  (prog_3_method_2_code, 1, 1, 1, 1),
  (prog_3_method_3_code, 1, 5, 1, 0),
  (prog_3_method_4_code, 1, 3, 2, 2),
  (prog_3_method_5_code, 1, 2, 2, 1),
  (prog_3_method_6_code, 1, 2, 0, 0),
  (prog_3_method_7_code, 1, 2, 0, 0),
  (prog_3_method_8_code, 1, 3, 0, 3),
  (prog_3_method_9_code, 1, 7, 0, 2),
  (prog_4_method_2_code, 2, 1, 0, 0),
  (prog_4_method_3_code, 2, 4, 0, 1),
  (prog_4_method_4_code, 2, 2, 0, 0),
  (prog_4_method_5_code, 2, 2, 1, 0),
  (prog_4_method_6_code, 2, 2, 1, 0),
  (prog_2_method_2_code, 3, 1, 0, 0),
  (prog_2_method_3_code, 3, 1, 2, 0),
  (prog_2_method_4_code, 3, 4, 0, 2),
  (prog_2_method_5_code, 3, 6, 2, 1),
  (prog_2_method_6_code, 3, 4, 1, 0),
  (prog_5_method_2_code, 4, 2, 2, 1),
  (prog_5_method_3_code, 4, 4, 2, 5),
  (prog_5_method_4_code, 4, 2, 0, 2),
  (prog_5_method_5_code, 4, 5, 1, 3),
  (prog_5_method_6_code, 4, 4, 1, 4),
  (prog_5_method_7_code, 4, 2, 1, 3),
  (prog_5_method_8_code, 4, 9, 1, 2),
  (prog_5_method_9_code, 4, 3, 1, 1),
  (prog_5_method_10_code, 4, 5, 0, 0),
  (prog_5_method_11_code, 4, 4, 0, 0),
  (prog_5_method_12_code, 4, 5, 0, 0),
  (prog_5_method_13_code, 4, 4, 1, 3),
  (prog_5_method_14_code, 4, 3, 0, 1),
  (prog_5_method_15_code, 4, 4, 0, 1),
  (prog_5_method_16_code, 4, 3, 0, 2),
  (prog_6_method_2_code, 5, 1, 0, 1),
  (prog_6_method_3_code, 5, 2, 2, 1),
  (prog_6_method_4_code, 5, 2, 0, 1),
  (prog_6_method_5_code, 5, 3, 0, 0),
  (prog_6_method_6_code, 5, 3, 0, 1),
  (prog_6_method_7_code, 5, 3, 0, 0),
  (prog_8_method_2_code, 6, 1, 1, 0),
  (prog_8_method_3_code, 6, 3, 2, 0),
  (prog_8_method_4_code, 6, 2, 2, 0),
  (prog_8_method_5_code, 6, 5, 1, 0),
  (prog_8_method_6_code, 6, 1, 1, 1),
  (prog_8_method_7_code, 6, 2, 1, 1),
  (prog_8_method_8_code, 6, 4, 1, 1),
  (prog_8_method_9_code, 6, 4, 1, 1),
  (prog_8_method_10_code, 6, 2, 1, 1),
  (prog_8_method_11_code, 6, 2, 1, 0),
  (prog_8_method_12_code, 6, 2, 0, 0),
  (prog_8_method_13_code, 6, 2, 2, 0),
  (prog_8_method_14_code, 6, 2, 0, 0),
  (prog_8_method_15_code, 6, 2, 0, 0),
  (prog_8_method_16_code, 6, 6, 2, 1),
  (prog_8_method_17_code, 6, 1, 2, 2),
  (prog_8_method_18_code, 6, 4, 1, 2),
  (prog_8_method_19_code, 6, 2, 1, 1),
  (prog_8_method_20_code, 6, 4, 2, 1),
  (prog_8_method_21_code, 6, 4, 2, 1),
  (prog_8_method_22_code, 6, 2, 2, 1),
  (prog_8_method_23_code, 6, 1, 1, 0),
  (prog_8_method_24_code, 6, 2, 1, 0),
  (method_3_code, 7, 3, 1, 9),
  (method_4_code, 7, 4, 1, 9),
  (method_5_code, 7, 6, 1, 9),
  (method_6_code, 7, 6, 1, 9),
  (method_7_code, 7, 4, 1, 9),
  (method_8_code, 7, 4, 1, 8),
  (method_9_code, 7, 5, 1, 9),
  (method_10_code, 7, 5, 1, 8),
  (method_11_code, 7, 4, 1, 9),
  (code, 7, 7, 2, 10)]
def pm_row (k : Nat) : ByteArray × Nat × Nat × Nat × Nat := pm_codes.getD k (code, 0, 0, 0, 0)
abbrev pm_bytes (k : Nat) : ByteArray := (pm_row k).1
abbrev pm_own (k : Nat) : Nat := (pm_row k).2.1
abbrev pm_mL (k : Nat) : Nat := (pm_row k).2.2.1
abbrev pm_ret (k : Nat) : Nat := (pm_row k).2.2.2.1
abbrev pm_rank (k : Nat) : Nat := (pm_row k).2.2.2.2
/-- kind of the code's owner, index: kind of the object, number of the field -/
def pm_fld : List (Nat × Nat × Nat × Nat) := [(0, 12, 0, 0), (0, 19, 0, 1), (0, 28, 0, 2), (0, 37, 0, 3), (0, 41, 0, 4), (0, 45, 1, 7), (0, 83, 0, 5), (0, 112, 1, 5), (0, 115, 1, 3), (0, 123, 0, 6), (0, 126, 1, 6), (1, 9, 1, 0), (1, 15, 1, 1), (1, 18, 1, 2), (1, 21, 1, 3), (1, 25, 1, 4), (1, 28, 1, 5), (1, 31, 1, 6), (1, 35, 1, 7), (2, 10, 2, 0), (2, 16, 2, 1), (2, 19, 2, 2), (2, 23, 2, 3), (3, 9, 3, 1), (3, 15, 3, 0), (3, 19, 2, 2), (3, 25, 3, 3), (3, 28, 3, 4), (3, 40, 3, 2), (3, 43, 2, 1), (3, 46, 2, 0), (4, 12, 4, 3), (4, 18, 4, 4), (4, 22, 4, 5), (4, 25, 4, 6), (4, 29, 4, 7), (4, 32, 4, 0), (4, 36, 4, 1), (4, 40, 4, 2), (4, 44, 5, 0), (4, 73, 4, 9), (4, 77, 1, 6), (4, 85, 2, 2), (4, 88, 2, 0), (4, 91, 2, 1), (4, 111, 1, 7), (4, 114, 1, 5), (4, 120, 5, 4), (4, 123, 5, 2), (4, 145, 5, 1), (4, 157, 4, 8), (5, 9, 5, 0), (5, 15, 5, 1), (5, 19, 5, 2), (5, 22, 5, 3), (5, 29, 5, 5), (5, 37, 5, 4), (6, 7, 6, 0), (6, 13, 6, 1), (6, 16, 6, 2), (6, 19, 6, 3), (6, 22, 6, 4), (6, 26, 6, 5), (6, 29, 6, 6), (6, 32, 6, 7), (6, 35, 6, 8), (6, 38, 6, 9), (6, 42, 6, 10), (6, 45, 6, 11), (6, 48, 6, 12)]
/-- kind of the code's owner, index: the method, how many arguments, the receiver's kind -/
def pm_call : List (Nat × Nat × Nat × Nat × Option Nat) := [(0, 56, 18, 1, some 0), (0, 59, 24, 1, some 1), (0, 63, 17, 2, some 0), (0, 67, 14, 1, none), (0, 71, 25, 4, some 1), (0, 80, 15, 1, none), (0, 88, 19, 2, some 0), (0, 91, 21, 1, some 0), (0, 95, 22, 1, some 0), (0, 98, 23, 2, some 0), (0, 106, 20, 3, some 0), (0, 119, 26, 2, some 1), (0, 133, 32, 1, some 2), (0, 136, 28, 1, some 1), (0, 139, 33, 4, some 2), (0, 143, 29, 2, some 1), (0, 146, 30, 2, some 1), (0, 149, 37, 1, some 3), (0, 152, 43, 1, some 4), (0, 155, 38, 1, some 3), (0, 158, 42, 2, some 4), (1, 38, 25, 4, some 1), (1, 42, 27, 2, some 1), (1, 46, 16, 1, none), (1, 50, 29, 2, some 1), (1, 54, 31, 3, some 1), (1, 58, 14, 1, none), (1, 61, 15, 1, none), (1, 64, 33, 4, some 2), (2, 26, 15, 1, none), (2, 30, 34, 2, some 2), (2, 34, 35, 1, some 2), (3, 32, 40, 4, some 3), (3, 36, 36, 2, some 2), (3, 49, 41, 2, some 3), (3, 52, 15, 1, none), (4, 47, 14, 1, none), (4, 51, 45, 1, some 4), (4, 55, 46, 1, some 4), (4, 58, 53, 2, some 4), (4, 61, 36, 2, some 2), (4, 66, 56, 2, some 4), (4, 70, 57, 1, some 5), (4, 82, 44, 1, some 4), (4, 94, 52, 2, some 4), (4, 97, 15, 1, none), (4, 100, 58, 2, some 5), (4, 104, 60, 3, some 5), (4, 108, 47, 1, some 4), (4, 117, 59, 2, some 5), (4, 126, 48, 2, some 4), (4, 129, 49, 2, some 4), (4, 132, 50, 3, some 4), (4, 135, 51, 4, some 4), (4, 139, 54, 2, some 4), (4, 142, 16, 1, none), (4, 148, 34, 2, some 2), (4, 151, 35, 1, some 2), (4, 154, 55, 2, some 4), (4, 160, 39, 4, some 3), (4, 166, 61, 2, some 5), (5, 25, 62, 2, some 5), (5, 33, 15, 1, none), (5, 40, 60, 3, some 5), (6, 51, 64, 3, some 6), (6, 55, 66, 5, some 6), (6, 59, 65, 2, some 6), (6, 63, 75, 1, some 6), (6, 66, 73, 1, some 6), (6, 69, 74, 1, some 6), (6, 73, 76, 1, some 6), (6, 76, 77, 3, some 6), (7, 7, 0, 1, some 0), (7, 15, 1, 2, some 0), (7, 21, 2, 4, some 0), (7, 27, 3, 4, some 0), (7, 30, 4, 2, some 0), (7, 33, 8, 2, some 0), (7, 36, 9, 3, some 0), (7, 40, 10, 3, some 0), (7, 44, 11, 2, some 0), (7, 52, 86, 2, none), (7, 57, 67, 1, some 6), (7, 58, 63, 1, some 6), (7, 61, 87, 3, none), (7, 64, 68, 2, some 6), (7, 65, 88, 5, none), (7, 68, 69, 4, some 6), (7, 69, 89, 5, none), (7, 71, 70, 4, some 6), (7, 72, 90, 3, none), (7, 74, 71, 2, some 6), (7, 75, 5, 1, some 0), (7, 78, 72, 1, some 6), (7, 79, 6, 1, some 0), (7, 83, 78, 1, some 6), (7, 84, 7, 1, some 0), (7, 87, 79, 1, some 6), (7, 88, 91, 3, none), (7, 90, 80, 2, some 6), (7, 91, 92, 4, none), (7, 94, 81, 3, some 6), (7, 95, 93, 4, none), (7, 98, 82, 3, some 6), (7, 99, 94, 3, none), (7, 101, 83, 2, some 6), (7, 102, 12, 1, some 0), (7, 105, 84, 1, some 6), (7, 106, 13, 2, some 0), (7, 109, 85, 2, some 6)]
def pm_thr : List (Nat × Nat × Nat) := [(0, 49, 1), (0, 75, 2), (0, 101, 0)]
/-- method, pc of the call, kind of what was thrown: handler, pc behind its store, the place of the store -/
def pm_hnd : List ((Nat × Nat × Nat) × (Nat × Nat × Nat)) := [((86, 3, 1), (11, 12, 2)), ((87, 4, 0), (12, 13, 3)), ((87, 4, 1), (15, 16, 3)), ((88, 7, 0), (15, 17, 5)), ((88, 7, 2), (19, 21, 5)), ((88, 7, 1), (23, 25, 5)), ((89, 7, 0), (15, 17, 5)), ((89, 7, 1), (19, 21, 5)), ((90, 4, 0), (12, 13, 3)), ((90, 4, 1), (15, 16, 3)), ((91, 4, 0), (12, 13, 3)), ((92, 5, 0), (20, 22, 4)), ((93, 5, 0), (20, 22, 4)), ((94, 4, 0), (19, 20, 3))]
/-! ONE STEP: what must hold ahead of an instruction, if Z must hold behind it. -/
def pm_wt (st : List pm_V) : Nat := (st.map fun v => if pm_is1 v then 1 else 2).sum
def pm_recv (D : List pm_D) (q : Option Nat) (as : List pm_V) : Prop := match q with
  | none => True
  | some ci => ∃ (c : Nat) (r : List pm_V) (fs : List (Nat ⊕ Bool)), as = .inr (.inl c) :: r ∧ D[c]? = some (.inr (ci, fs))
/-- behind a call -/
def pm_back (Z : pm_C → pm_P → Prop) (k pc : Nat) (ls : pm_L) (rest : List pm_V) (Q : pm_P) : pm_P := fun r M =>
  match r with
  | .inl v => Z (k, pc + 3, ls, v.toList ++ rest, M) Q
  | .inr kd => match pm_hnd.lookup (k, pc, kd) with
    | none => Q (.inr kd) M
    | some h => Z (k, h.2.1, ls.set h.2.2 none, [], M) Q
def pm_inv (L : Nat) (Z : pm_C → pm_P → Prop) (stat : Bool) (index k pc : Nat) (ls : pm_L) (st : List pm_V) (M : pm_M) (Q : pm_P) : Prop :=
  ∃ (k' n : Nat) (q : Option Nat) (as rest : List pm_V), (pm_own k, index, k', n, q) ∈ pm_call ∧ q.isNone = stat ∧ st = as.reverse ++ rest ∧ as.length = n ∧ as.all pm_is1 = true ∧ pm_recv (pm_cells L) q as ∧ pm_wt rest ≤ 8 ∧
    Z (k', 0, pm_ent (pm_mL k') as, [], M) (pm_back Z k pc ls rest Q)
def pm_stp (L : Nat) (Z : pm_C → pm_P → Prop) (i : Jvm.ClassFile.Instr) (len k pc : Nat) (ls : pm_L) (st : List pm_V) (M : pm_M) (Q : pm_P) : Prop :=
  match i with
  | .iconst x => -1 ≤ x ∧ x ≤ 5 ∧ Z (k, pc + 1, ls, .inl x :: st, M) Q
  | .bipush x => -128 ≤ x ∧ x ≤ 127 ∧ Z (k, pc + 2, ls, .inl x :: st, M) Q
  | .sipush x => -32768 ≤ x ∧ x ≤ 32767 ∧ Z (k, pc + 3, ls, .inl x :: st, M) Q
  | .lconst x => Z (k, pc + 1, ls, .inr (.inr (x.val : Int)) :: st, M) Q
  | .iload_n n => ∃ x, ls[n.val]? = some (some (.inl x)) ∧ Z (k, pc + 1, ls, .inl x :: st, M) Q
  | .iload n => ∃ x, ls[n]? = some (some (.inl x)) ∧ Z (k, pc + 2, ls, .inl x :: st, M) Q
  | .aload_n n => ∃ x, ls[n.val]? = some (some (.inr (.inl x))) ∧ Z (k, pc + 1, ls, .inr (.inl x) :: st, M) Q
  | .aload n => ∃ x, ls[n]? = some (some (.inr (.inl x))) ∧ Z (k, pc + 2, ls, .inr (.inl x) :: st, M) Q
  | .istore_n n => ∃ x r, st = .inl x :: r ∧ n.val < ls.length ∧ Z (k, pc + 1, ls.set n.val (some (.inl x)), r, M) Q
  | .istore n => ∃ x r, st = .inl x :: r ∧ n < ls.length ∧ Z (k, pc + 2, ls.set n (some (.inl x)), r, M) Q
  | .iinc n d => ∃ x, ls[n]? = some (some (.inl x)) ∧ -128 ≤ d ∧ d ≤ 127 ∧ pm_R (x + d) ∧ Z (k, pc + 3, ls.set n (some (.inl (x + d))), st, M) Q
  | .iadd => ∃ x y r, st = .inl y :: .inl x :: r ∧ pm_R (x + y) ∧ Z (k, pc + 1, ls, .inl (x + y) :: r, M) Q
  | .isub => ∃ x y r, st = .inl y :: .inl x :: r ∧ pm_R (x - y) ∧ Z (k, pc + 1, ls, .inl (x - y) :: r, M) Q
  | .imul => ∃ x y r, st = .inl y :: .inl x :: r ∧ pm_R (x * y) ∧ Z (k, pc + 1, ls, .inl (x * y) :: r, M) Q
  | .iand => ∃ x y r, st = .inl y :: .inl x :: r ∧ (y = 1 ∨ y = 15) ∧ Z (k, pc + 1, ls, .inl (x % (y + 1)) :: r, M) Q
  | .ixor => ∃ x r, st = .inl 1 :: .inl x :: r ∧ Z (k, pc + 1, ls, .inl (pm_op x) :: r, M) Q
  | .ishr => ∃ x r, st = .inl 1 :: .inl x :: r ∧ Z (k, pc + 1, ls, .inl (x / 2) :: r, M) Q
  | .i2l => ∃ x r, st = .inl x :: r ∧ Z (k, pc + 1, ls, .inr (.inr x) :: r, M) Q
  | .lcmp => ∃ x y r, st = .inr (.inr y) :: .inr (.inr x) :: r ∧ Z (k, pc + 1, ls, .inl (if x < y then -1 else if x = y then 0 else 1) :: r, M) Q
  | .getfield index => ∃ (ci j c : Nat) (r : List pm_V) (fs : List (Nat ⊕ Bool)) (f : Nat ⊕ Bool), (pm_own k, index, ci, j) ∈ pm_fld ∧ st = .inr (.inl c) :: r ∧ (pm_cells L)[c]? = some (.inr (ci, fs)) ∧ fs[j]? = some f ∧
      Z (k, pc + 3, ls, (match f with | .inl q => .inr (.inl q) | .inr _ => .inl (M c j)) :: r, M) Q
  | .putfield index => ∃ (ci j c : Nat) (x : Int) (r : List pm_V) (fs : List (Nat ⊕ Bool)) (b : Bool), (pm_own k, index, ci, j) ∈ pm_fld ∧ st = .inl x :: .inr (.inl c) :: r ∧ (pm_cells L)[c]? = some (.inr (ci, fs)) ∧ fs[j]? = some (.inr b) ∧ (b = true → pm_bit x) ∧
      Z (k, pc + 3, ls, r, pm_set M c j x) Q
  | .iaload => ∃ i c r, st = .inl i :: .inr (.inl c) :: r ∧ pm_arr (pm_cells L) c 0 i ∧ Z (k, pc + 1, ls, .inl (M c i) :: r, M) Q
  | .baload => ∃ i c r, st = .inl i :: .inr (.inl c) :: r ∧ pm_arr (pm_cells L) c 1 i ∧ Z (k, pc + 1, ls, .inl (M c i) :: r, M) Q
  | .laload => ∃ i c r, st = .inl i :: .inr (.inl c) :: r ∧ pm_arr (pm_cells L) c 2 i ∧ Z (k, pc + 1, ls, .inr (.inr (M c i)) :: r, M) Q
  | .iastore => ∃ x i c r, st = .inl x :: .inl i :: .inr (.inl c) :: r ∧ pm_arr (pm_cells L) c 0 i ∧ Z (k, pc + 1, ls, r, pm_set M c i x) Q
  | .bastore => ∃ x i c r, st = .inl x :: .inl i :: .inr (.inl c) :: r ∧ pm_arr (pm_cells L) c 1 i ∧ pm_bit x ∧ Z (k, pc + 1, ls, r, pm_set M c i x) Q
  | .lastore => ∃ x i c r, st = .inr (.inr x) :: .inl i :: .inr (.inl c) :: r ∧ pm_arr (pm_cells L) c 2 i ∧ Z (k, pc + 1, ls, r, pm_set M c i x) Q
  | .arraylength => ∃ (c : Nat) (r : List pm_V) (n : Nat), st = .inr (.inl c) :: r ∧ (pm_cells L)[c]? = some (.inl (0, n)) ∧ n ≤ 100000 ∧ Z (k, pc + 1, ls, .inl n :: r, M) Q
  | .dup => ∃ v r, st = v :: r ∧ pm_is1 v = true ∧ Z (k, pc + 1, ls, v :: v :: r, M) Q
  | .dup_x1 => ∃ v w r, st = v :: w :: r ∧ pm_is1 v = true ∧ pm_is1 w = true ∧ Z (k, pc + 1, ls, v :: w :: v :: r, M) Q
  | .pop => ∃ v r, st = v :: r ∧ pm_is1 v = true ∧ Z (k, pc + 1, ls, r, M) Q
  | .ifCond c off => ∃ (x : Int) (r : List pm_V) (t : Nat), st = .inl x :: r ∧ (pc : Int) + off = t ∧ (pm_cmp c x 0 → Z (k, t, ls, r, M) Q) ∧ (¬ pm_cmp c x 0 → Z (k, pc + 3, ls, r, M) Q)
  | .if_icmp c off => ∃ (x y : Int) (r : List pm_V) (t : Nat), st = .inl y :: .inl x :: r ∧ (pc : Int) + off = t ∧ (pm_cmp c x y → Z (k, t, ls, r, M) Q) ∧ (¬ pm_cmp c x y → Z (k, pc + 3, ls, r, M) Q)
  | .goto off => ∃ t : Nat, (pc : Int) + off = t ∧ Z (k, t, ls, st, M) Q
  | .tableswitch d lo hi offs => ∃ (x : Int) (r : List pm_V), st = .inl x :: r ∧ ((x < lo ∨ hi < x) → ∃ t : Nat, (pc : Int) + d = t ∧ Z (k, t, ls, r, M) Q) ∧
      (¬ x < lo → ¬ hi < x → ∃ (off : Int) (t : Nat), offs[(x - lo).toNat]? = some off ∧ (pc : Int) + off = t ∧ Z (k, t, ls, r, M) Q)
  | .invokevirtual index => pm_inv L Z false index k pc ls st M Q
  | .invokestatic index => pm_inv L Z true index k pc ls st M Q
  | .ireturn => ∃ x, st = [.inl x] ∧ (pm_ret k = 1 ∨ pm_ret k = 2 ∧ pm_bit x) ∧ Q (.inl (some (.inl x))) M
  | .return_ => st = [] ∧ pm_ret k = 0 ∧ Q (.inl none) M
  | .new index => ∃ kd, (pm_own k, index, kd) ∈ pm_thr ∧ st = [] ∧ 1 ≤ M 99 0 ∧ Q (.inr kd) (pm_set M 99 0 (M 99 0 - 1))
  | _ => False
/-- how long an instruction is -/
def pm_ln (i : Jvm.ClassFile.Instr) (len : Nat) : Prop := match i with
  | .tableswitch .. => True
  | .bipush _ => len = 2
  | .iload _ => len = 2
  | .aload _ => len = 2
  | .istore _ => len = 2
  | .sipush _ => len = 3
  | .iinc _ _ => len = 3
  | .getfield _ => len = 3
  | .putfield _ => len = 3
  | .ifCond _ _ => len = 3
  | .if_icmp _ _ => len = 3
  | .goto _ => len = 3
  | .invokevirtual _ => len = 3
  | .invokestatic _ => len = 3
  | .new _ => len = 3
  | _ => len = 1
def pm_step (L : Nat) (Z : pm_C → pm_P → Prop) (c : pm_C) (Q : pm_P) : Prop :=
  ∃ i len, Jvm.ClassFile.decode (pm_bytes c.1) c.2.1 = .ok (i, len) ∧ pm_ln i len ∧ pm_stp L Z i len c.1 c.2.1 c.2.2.1 c.2.2.2.1 c.2.2.2.2 Q
def pm_mono (Z : pm_C → pm_P → Prop) : Prop := ∀ (c : pm_C) (Q Q' : pm_P), (∀ r M, Q r M → Q' r M) → Z c Q → Z c Q'
/-- the machine comes from c to an end with Q: the least Z that the steps allow -/
def pm_X (L : Nat) (c : pm_C) (Q : pm_P) : Prop := ∀ Z : pm_C → pm_P → Prop, pm_mono Z → (∀ c Q, pm_step L Z c Q → Z c Q) → Z c Q
theorem pm_back_mono {Y Z : pm_C → pm_P → Prop} (h : ∀ c Q, Y c Q → Z c Q) {k pc : Nat} {ls : pm_L} {rest : List pm_V} {Q : pm_P} (r : pm_A) (M : pm_M) (hb : pm_back Y k pc ls rest Q r M) : pm_back Z k pc ls rest Q r M := by
  unfold pm_back at hb ⊢
  cases r with
  | inl v => exact h _ _ hb
  | inr kd =>
    revert hb
    dsimp only
    cases pm_hnd.lookup (k, pc, kd) with
    | none => exact fun hb => hb
    | some q => exact fun hb => h _ _ hb
theorem pm_inv_mono {L : Nat} {Y Z : pm_C → pm_P → Prop} (h : ∀ c Q, Y c Q → Z c Q) (hz : pm_mono Z) {b : Bool} {index k pc : Nat} {ls : pm_L} {st : List pm_V} {M : pm_M} {Q : pm_P} (hi : pm_inv L Y b index k pc ls st M Q) : pm_inv L Z b index k pc ls st M Q := by
  obtain ⟨k', n, q, as, rest, h1, h2, h3, h4, h5, h6, h7, h8⟩ := hi
  exact ⟨k', n, q, as, rest, h1, h2, h3, h4, h5, h6, h7, hz _ _ _ (fun r M hb => pm_back_mono h r M hb) (h _ _ h8)⟩
theorem pm_stp_mono {L : Nat} {Y Z : pm_C → pm_P → Prop} (h : ∀ c Q, Y c Q → Z c Q) (hz : pm_mono Z) {i : Jvm.ClassFile.Instr} {len k pc : Nat} {ls : pm_L} {st : List pm_V} {M : pm_M} {Q : pm_P} (hi : pm_stp L Y i len k pc ls st M Q) : pm_stp L Z i len k pc ls st M Q := by
  cases i with
  | iconst x => exact ⟨hi.1, hi.2.1, h _ _ hi.2.2⟩
  | bipush x => exact ⟨hi.1, hi.2.1, h _ _ hi.2.2⟩
  | sipush x => exact ⟨hi.1, hi.2.1, h _ _ hi.2.2⟩
  | lconst x => exact h _ _ hi
  | iload_n n => obtain ⟨x, h1, h2⟩ := hi; exact ⟨x, h1, h _ _ h2⟩
  | iload n => obtain ⟨x, h1, h2⟩ := hi; exact ⟨x, h1, h _ _ h2⟩
  | aload_n n => obtain ⟨x, h1, h2⟩ := hi; exact ⟨x, h1, h _ _ h2⟩
  | aload n => obtain ⟨x, h1, h2⟩ := hi; exact ⟨x, h1, h _ _ h2⟩
  | istore_n n => obtain ⟨x, r, h1, h2, h3⟩ := hi; exact ⟨x, r, h1, h2, h _ _ h3⟩
  | istore n => obtain ⟨x, r, h1, h2, h3⟩ := hi; exact ⟨x, r, h1, h2, h _ _ h3⟩
  | iinc n d => obtain ⟨x, h1, h2, h3, h4, h5⟩ := hi; exact ⟨x, h1, h2, h3, h4, h _ _ h5⟩
  | iadd => obtain ⟨x, y, r, h1, h2, h3⟩ := hi; exact ⟨x, y, r, h1, h2, h _ _ h3⟩
  | isub => obtain ⟨x, y, r, h1, h2, h3⟩ := hi; exact ⟨x, y, r, h1, h2, h _ _ h3⟩
  | imul => obtain ⟨x, y, r, h1, h2, h3⟩ := hi; exact ⟨x, y, r, h1, h2, h _ _ h3⟩
  | iand => obtain ⟨x, y, r, h1, h2, h3⟩ := hi; exact ⟨x, y, r, h1, h2, h _ _ h3⟩
  | ixor => obtain ⟨x, r, h1, h2⟩ := hi; exact ⟨x, r, h1, h _ _ h2⟩
  | ishr => obtain ⟨x, r, h1, h2⟩ := hi; exact ⟨x, r, h1, h _ _ h2⟩
  | i2l => obtain ⟨x, r, h1, h2⟩ := hi; exact ⟨x, r, h1, h _ _ h2⟩
  | lcmp => obtain ⟨x, y, r, h1, h2⟩ := hi; exact ⟨x, y, r, h1, h _ _ h2⟩
  | getfield n => obtain ⟨ci, j, c, r, fs, f, h1, h2, h3, h4, h5⟩ := hi; exact ⟨ci, j, c, r, fs, f, h1, h2, h3, h4, h _ _ h5⟩
  | putfield n => obtain ⟨ci, j, c, x, r, fs, b, h1, h2, h3, h4, h5, h6⟩ := hi; exact ⟨ci, j, c, x, r, fs, b, h1, h2, h3, h4, h5, h _ _ h6⟩
  | iaload => obtain ⟨i, c, r, h1, h2, h3⟩ := hi; exact ⟨i, c, r, h1, h2, h _ _ h3⟩
  | baload => obtain ⟨i, c, r, h1, h2, h3⟩ := hi; exact ⟨i, c, r, h1, h2, h _ _ h3⟩
  | laload => obtain ⟨i, c, r, h1, h2, h3⟩ := hi; exact ⟨i, c, r, h1, h2, h _ _ h3⟩
  | iastore => obtain ⟨x, i, c, r, h1, h2, h3⟩ := hi; exact ⟨x, i, c, r, h1, h2, h _ _ h3⟩
  | bastore => obtain ⟨x, i, c, r, h1, h2, h3, h4⟩ := hi; exact ⟨x, i, c, r, h1, h2, h3, h _ _ h4⟩
  | lastore => obtain ⟨x, i, c, r, h1, h2, h3⟩ := hi; exact ⟨x, i, c, r, h1, h2, h _ _ h3⟩
  | arraylength => obtain ⟨c, r, n, h1, h2, h3, h4⟩ := hi; exact ⟨c, r, n, h1, h2, h3, h _ _ h4⟩
  | dup => obtain ⟨v, r, h1, h2, h3⟩ := hi; exact ⟨v, r, h1, h2, h _ _ h3⟩
  | dup_x1 => obtain ⟨v, w, r, h1, h2, h3, h4⟩ := hi; exact ⟨v, w, r, h1, h2, h3, h _ _ h4⟩
  | pop => obtain ⟨v, r, h1, h2, h3⟩ := hi; exact ⟨v, r, h1, h2, h _ _ h3⟩
  | ifCond c off => obtain ⟨x, r, t, h1, h2, h3, h4⟩ := hi; exact ⟨x, r, t, h1, h2, fun z => h _ _ (h3 z), fun z => h _ _ (h4 z)⟩
  | if_icmp c off => obtain ⟨x, y, r, t, h1, h2, h3, h4⟩ := hi; exact ⟨x, y, r, t, h1, h2, fun z => h _ _ (h3 z), fun z => h _ _ (h4 z)⟩
  | goto off => obtain ⟨t, h1, h2⟩ := hi; exact ⟨t, h1, h _ _ h2⟩
  | tableswitch d lo hi offs =>
    obtain ⟨x, r, h1, h2, h3⟩ := hi
    refine ⟨x, r, h1, fun z => ?_, fun z1 z2 => ?_⟩
    · obtain ⟨t, a, b⟩ := h2 z; exact ⟨t, a, h _ _ b⟩
    · obtain ⟨off, t, a, b, c⟩ := h3 z1 z2; exact ⟨off, t, a, b, h _ _ c⟩
  | invokevirtual n => exact pm_inv_mono h hz hi
  | invokestatic n => exact pm_inv_mono h hz hi
  | ireturn => exact hi
  | return_ => exact hi
  | new n => exact hi
  | _ => exact hi.elim
theorem pm_in {L : Nat} {c : pm_C} {Q : pm_P} (h : pm_step L (pm_X L) c Q) : pm_X L c Q := by
  intro Z hz hs
  obtain ⟨i, len, hd, hl, h⟩ := h
  exact hs c Q ⟨i, len, hd, hl, pm_stp_mono (fun c Q hx => hx Z hz hs) hz h⟩
theorem pm_up {L : Nat} {c : pm_C} {Q Q' : pm_P} (h : pm_X L c Q) (hq : ∀ r M, Q r M → Q' r M) : pm_X L c Q' := fun Z hz hs => hz c Q Q' hq (h Z hz hs)
end
section
/-! THE RULES: pm_X at an instruction out of pm_X at the next. -/
section PMR
variable {L k pc nx len : Nat} {ls ls' : pm_L} {st : List pm_V} {M : pm_M} {Q : pm_P}
theorem x_iconst {x : Int} (hd : Jvm.ClassFile.decode (pm_bytes k) pc = .ok (.iconst x, 1)) (hr : -1 ≤ x ∧ x ≤ 5) (hn : pc + 1 = nx) (h : pm_X L (k, nx, ls, .inl x :: st, M) Q) : pm_X L (k, pc, ls, st, M) Q := by
  subst hn; exact pm_in ⟨_, _, hd, rfl, hr.1, hr.2, h⟩
theorem x_bipush {x : Int} (hd : Jvm.ClassFile.decode (pm_bytes k) pc = .ok (.bipush x, 2)) (hr : -128 ≤ x ∧ x ≤ 127) (hn : pc + 2 = nx) (h : pm_X L (k, nx, ls, .inl x :: st, M) Q) : pm_X L (k, pc, ls, st, M) Q := by
  subst hn; exact pm_in ⟨_, _, hd, rfl, hr.1, hr.2, h⟩
theorem x_sipush {x : Int} (hd : Jvm.ClassFile.decode (pm_bytes k) pc = .ok (.sipush x, 3)) (hr : -32768 ≤ x ∧ x ≤ 32767) (hn : pc + 3 = nx) (h : pm_X L (k, nx, ls, .inl x :: st, M) Q) : pm_X L (k, pc, ls, st, M) Q := by
  subst hn; exact pm_in ⟨_, _, hd, rfl, hr.1, hr.2, h⟩
theorem x_lconst {x : Fin 2} {y : Int} (hd : Jvm.ClassFile.decode (pm_bytes k) pc = .ok (.lconst x, 1)) (hr : (x.val : Int) = y) (hn : pc + 1 = nx) (h : pm_X L (k, nx, ls, .inr (.inr y) :: st, M) Q) : pm_X L (k, pc, ls, st, M) Q := by
  subst hn; subst hr; exact pm_in ⟨_, _, hd, rfl, h⟩
theorem x_iload_n {n : Fin 4} {x : Int} (hd : Jvm.ClassFile.decode (pm_bytes k) pc = .ok (.iload_n n, 1)) (hl : ls[n.val]? = some (some (.inl x))) (hn : pc + 1 = nx) (h : pm_X L (k, nx, ls, .inl x :: st, M) Q) : pm_X L (k, pc, ls, st, M) Q := by
  subst hn; exact pm_in ⟨_, _, hd, rfl, x, hl, h⟩
theorem x_iload {n : Nat} {x : Int} (hd : Jvm.ClassFile.decode (pm_bytes k) pc = .ok (.iload n, 2)) (hl : ls[n]? = some (some (.inl x))) (hn : pc + 2 = nx) (h : pm_X L (k, nx, ls, .inl x :: st, M) Q) : pm_X L (k, pc, ls, st, M) Q := by
  subst hn; exact pm_in ⟨_, _, hd, rfl, x, hl, h⟩
theorem x_aload_n {n : Fin 4} {x : Nat} (hd : Jvm.ClassFile.decode (pm_bytes k) pc = .ok (.aload_n n, 1)) (hl : ls[n.val]? = some (some (.inr (.inl x)))) (hn : pc + 1 = nx) (h : pm_X L (k, nx, ls, .inr (.inl x) :: st, M) Q) : pm_X L (k, pc, ls, st, M) Q := by
  subst hn; exact pm_in ⟨_, _, hd, rfl, x, hl, h⟩
theorem x_aload {n : Nat} {x : Nat} (hd : Jvm.ClassFile.decode (pm_bytes k) pc = .ok (.aload n, 2)) (hl : ls[n]? = some (some (.inr (.inl x)))) (hn : pc + 2 = nx) (h : pm_X L (k, nx, ls, .inr (.inl x) :: st, M) Q) : pm_X L (k, pc, ls, st, M) Q := by
  subst hn; exact pm_in ⟨_, _, hd, rfl, x, hl, h⟩
theorem x_istore_n {n : Fin 4} {x : Int} (hd : Jvm.ClassFile.decode (pm_bytes k) pc = .ok (.istore_n n, 1)) (hl : n.val < ls.length) (hs : ls.set n.val (some (.inl x)) = ls') (hn : pc + 1 = nx) (h : pm_X L (k, nx, ls', st, M) Q) : pm_X L (k, pc, ls, .inl x :: st, M) Q := by
  subst hn; subst hs; exact pm_in ⟨_, _, hd, rfl, x, st, rfl, hl, h⟩
theorem x_istore {n : Nat} {x : Int} (hd : Jvm.ClassFile.decode (pm_bytes k) pc = .ok (.istore n, 2)) (hl : n < ls.length) (hs : ls.set n (some (.inl x)) = ls') (hn : pc + 2 = nx) (h : pm_X L (k, nx, ls', st, M) Q) : pm_X L (k, pc, ls, .inl x :: st, M) Q := by
  subst hn; subst hs; exact pm_in ⟨_, _, hd, rfl, x, st, rfl, hl, h⟩
theorem x_iinc {n : Nat} {x d : Int} (hd : Jvm.ClassFile.decode (pm_bytes k) pc = .ok (.iinc n d, 3)) (hl : ls[n]? = some (some (.inl x))) (hr : -128 ≤ d ∧ d ≤ 127) (hs : ls.set n (some (.inl (x + d))) = ls') (hn : pc + 3 = nx) (hq : pm_R (x + d)) (h : pm_X L (k, nx, ls', st, M) Q) : pm_X L (k, pc, ls, st, M) Q := by
  subst hn; subst hs; exact pm_in ⟨_, _, hd, rfl, x, hl, hr.1, hr.2, hq, h⟩
theorem x_iadd {x y : Int} (hd : Jvm.ClassFile.decode (pm_bytes k) pc = .ok (.iadd, 1)) (hn : pc + 1 = nx) (hq : pm_R (x + y)) (h : pm_X L (k, nx, ls, .inl (x + y) :: st, M) Q) : pm_X L (k, pc, ls, .inl y :: .inl x :: st, M) Q := by
  subst hn; exact pm_in ⟨_, _, hd, rfl, x, y, st, rfl, hq, h⟩
theorem x_isub {x y : Int} (hd : Jvm.ClassFile.decode (pm_bytes k) pc = .ok (.isub, 1)) (hn : pc + 1 = nx) (hq : pm_R (x - y)) (h : pm_X L (k, nx, ls, .inl (x - y) :: st, M) Q) : pm_X L (k, pc, ls, .inl y :: .inl x :: st, M) Q := by
  subst hn; exact pm_in ⟨_, _, hd, rfl, x, y, st, rfl, hq, h⟩
theorem x_imul {x y : Int} (hd : Jvm.ClassFile.decode (pm_bytes k) pc = .ok (.imul, 1)) (hn : pc + 1 = nx) (hq : pm_R (x * y)) (h : pm_X L (k, nx, ls, .inl (x * y) :: st, M) Q) : pm_X L (k, pc, ls, .inl y :: .inl x :: st, M) Q := by
  subst hn; exact pm_in ⟨_, _, hd, rfl, x, y, st, rfl, hq, h⟩
theorem x_iand1 {x : Int} (hd : Jvm.ClassFile.decode (pm_bytes k) pc = .ok (.iand, 1)) (hn : pc + 1 = nx) (h : pm_X L (k, nx, ls, .inl (x % 2) :: st, M) Q) : pm_X L (k, pc, ls, .inl 1 :: .inl x :: st, M) Q := by
  subst hn; exact pm_in ⟨_, _, hd, rfl, x, 1, st, rfl, .inl rfl, h⟩
theorem x_iand15 {x : Int} (hd : Jvm.ClassFile.decode (pm_bytes k) pc = .ok (.iand, 1)) (hn : pc + 1 = nx) (h : pm_X L (k, nx, ls, .inl (x % 16) :: st, M) Q) : pm_X L (k, pc, ls, .inl 15 :: .inl x :: st, M) Q := by
  subst hn; exact pm_in ⟨_, _, hd, rfl, x, 15, st, rfl, .inr rfl, h⟩
theorem x_ixor {x : Int} (hd : Jvm.ClassFile.decode (pm_bytes k) pc = .ok (.ixor, 1)) (hn : pc + 1 = nx) (h : pm_X L (k, nx, ls, .inl (pm_op x) :: st, M) Q) : pm_X L (k, pc, ls, .inl 1 :: .inl x :: st, M) Q := by
  subst hn; exact pm_in ⟨_, _, hd, rfl, x, st, rfl, h⟩
theorem x_ishr {x : Int} (hd : Jvm.ClassFile.decode (pm_bytes k) pc = .ok (.ishr, 1)) (hn : pc + 1 = nx) (h : pm_X L (k, nx, ls, .inl (x / 2) :: st, M) Q) : pm_X L (k, pc, ls, .inl 1 :: .inl x :: st, M) Q := by
  subst hn; exact pm_in ⟨_, _, hd, rfl, x, st, rfl, h⟩
theorem x_i2l {x : Int} (hd : Jvm.ClassFile.decode (pm_bytes k) pc = .ok (.i2l, 1)) (hn : pc + 1 = nx) (h : pm_X L (k, nx, ls, .inr (.inr x) :: st, M) Q) : pm_X L (k, pc, ls, .inl x :: st, M) Q := by
  subst hn; exact pm_in ⟨_, _, hd, rfl, x, st, rfl, h⟩
theorem x_lcmp {x y : Int} (hd : Jvm.ClassFile.decode (pm_bytes k) pc = .ok (.lcmp, 1)) (hn : pc + 1 = nx) (h : pm_X L (k, nx, ls, .inl (if x < y then -1 else if x = y then 0 else 1) :: st, M) Q) : pm_X L (k, pc, ls, .inr (.inr y) :: .inr (.inr x) :: st, M) Q := by
  subst hn; exact pm_in ⟨_, _, hd, rfl, x, y, st, rfl, h⟩
theorem x_getr {index ci j c q : Nat} {fs : List (Nat ⊕ Bool)} (hd : Jvm.ClassFile.decode (pm_bytes k) pc = .ok (.getfield index, 3)) (hf : (pm_own k, index, ci, j) ∈ pm_fld) (hc : (pm_cells L)[c]? = some (.inr (ci, fs))) (hj : fs[j]? = some (.inl q)) (hn : pc + 3 = nx)
    (h : pm_X L (k, nx, ls, .inr (.inl q) :: st, M) Q) : pm_X L (k, pc, ls, .inr (.inl c) :: st, M) Q := by
  subst hn; exact pm_in ⟨_, _, hd, rfl, ci, j, c, st, fs, _, hf, rfl, hc, hj, h⟩
theorem x_geti {index ci j c : Nat} {v : Int} {b : Bool} {fs : List (Nat ⊕ Bool)} (hd : Jvm.ClassFile.decode (pm_bytes k) pc = .ok (.getfield index, 3)) (hf : (pm_own k, index, ci, j) ∈ pm_fld) (hc : (pm_cells L)[c]? = some (.inr (ci, fs))) (hj : fs[j]? = some (.inr b)) (hv : M c j = v) (hn : pc + 3 = nx)
    (h : pm_X L (k, nx, ls, .inl v :: st, M) Q) : pm_X L (k, pc, ls, .inr (.inl c) :: st, M) Q := by
  subst hn; subst hv; exact pm_in ⟨_, _, hd, rfl, ci, j, c, st, fs, _, hf, rfl, hc, hj, h⟩
theorem x_puti {index ci j c : Nat} {x : Int} {fs : List (Nat ⊕ Bool)} (hd : Jvm.ClassFile.decode (pm_bytes k) pc = .ok (.putfield index, 3)) (hf : (pm_own k, index, ci, j) ∈ pm_fld) (hc : (pm_cells L)[c]? = some (.inr (ci, fs))) (hj : fs[j]? = some (.inr false)) (hn : pc + 3 = nx)
    (h : pm_X L (k, nx, ls, st, pm_set M c j x) Q) : pm_X L (k, pc, ls, .inl x :: .inr (.inl c) :: st, M) Q := by
  subst hn; exact pm_in ⟨_, _, hd, rfl, ci, j, c, x, st, fs, false, hf, rfl, hc, hj, (fun z => by cases z), h⟩
theorem x_putz {index ci j c : Nat} {x : Int} {fs : List (Nat ⊕ Bool)} (hd : Jvm.ClassFile.decode (pm_bytes k) pc = .ok (.putfield index, 3)) (hf : (pm_own k, index, ci, j) ∈ pm_fld) (hc : (pm_cells L)[c]? = some (.inr (ci, fs))) (hj : fs[j]? = some (.inr true)) (hn : pc + 3 = nx)
    (hq : pm_bit x) (h : pm_X L (k, nx, ls, st, pm_set M c j x) Q) : pm_X L (k, pc, ls, .inl x :: .inr (.inl c) :: st, M) Q := by
  subst hn; exact pm_in ⟨_, _, hd, rfl, ci, j, c, x, st, fs, true, hf, rfl, hc, hj, fun _ => hq, h⟩
theorem x_iaload {i v : Int} {c n : Nat} (hd : Jvm.ClassFile.decode (pm_bytes k) pc = .ok (.iaload, 1)) (hc : (pm_cells L)[c]? = some (.inl (0, n))) (hv : M c i = v) (hn : pc + 1 = nx) (hq : 0 ≤ i ∧ i < n) (h : pm_X L (k, nx, ls, .inl v :: st, M) Q) : pm_X L (k, pc, ls, .inl i :: .inr (.inl c) :: st, M) Q := by
  subst hn; subst hv; exact pm_in ⟨_, _, hd, rfl, i, c, st, rfl, ⟨n, hc, hq⟩, h⟩
theorem x_baload {i v : Int} {c n : Nat} (hd : Jvm.ClassFile.decode (pm_bytes k) pc = .ok (.baload, 1)) (hc : (pm_cells L)[c]? = some (.inl (1, n))) (hv : M c i = v) (hn : pc + 1 = nx) (hq : 0 ≤ i ∧ i < n) (h : pm_X L (k, nx, ls, .inl v :: st, M) Q) : pm_X L (k, pc, ls, .inl i :: .inr (.inl c) :: st, M) Q := by
  subst hn; subst hv; exact pm_in ⟨_, _, hd, rfl, i, c, st, rfl, ⟨n, hc, hq⟩, h⟩
theorem x_laload {i v : Int} {c n : Nat} (hd : Jvm.ClassFile.decode (pm_bytes k) pc = .ok (.laload, 1)) (hc : (pm_cells L)[c]? = some (.inl (2, n))) (hv : M c i = v) (hn : pc + 1 = nx) (hq : 0 ≤ i ∧ i < n) (h : pm_X L (k, nx, ls, .inr (.inr v) :: st, M) Q) : pm_X L (k, pc, ls, .inl i :: .inr (.inl c) :: st, M) Q := by
  subst hn; subst hv; exact pm_in ⟨_, _, hd, rfl, i, c, st, rfl, ⟨n, hc, hq⟩, h⟩
theorem x_iastore {x i : Int} {c n : Nat} (hd : Jvm.ClassFile.decode (pm_bytes k) pc = .ok (.iastore, 1)) (hc : (pm_cells L)[c]? = some (.inl (0, n))) (hn : pc + 1 = nx) (hq : 0 ≤ i ∧ i < n) (h : pm_X L (k, nx, ls, st, pm_set M c i x) Q) : pm_X L (k, pc, ls, .inl x :: .inl i :: .inr (.inl c) :: st, M) Q := by
  subst hn; exact pm_in ⟨_, _, hd, rfl, x, i, c, st, rfl, ⟨n, hc, hq⟩, h⟩
theorem x_bastore {x i : Int} {c n : Nat} (hd : Jvm.ClassFile.decode (pm_bytes k) pc = .ok (.bastore, 1)) (hc : (pm_cells L)[c]? = some (.inl (1, n))) (hn : pc + 1 = nx) (hq : (0 ≤ i ∧ i < n) ∧ pm_bit x) (h : pm_X L (k, nx, ls, st, pm_set M c i x) Q) : pm_X L (k, pc, ls, .inl x :: .inl i :: .inr (.inl c) :: st, M) Q := by
  subst hn; exact pm_in ⟨_, _, hd, rfl, x, i, c, st, rfl, ⟨n, hc, hq.1⟩, hq.2, h⟩
theorem x_lastore {x i : Int} {c n : Nat} (hd : Jvm.ClassFile.decode (pm_bytes k) pc = .ok (.lastore, 1)) (hc : (pm_cells L)[c]? = some (.inl (2, n))) (hn : pc + 1 = nx) (hq : 0 ≤ i ∧ i < n) (h : pm_X L (k, nx, ls, st, pm_set M c i x) Q) : pm_X L (k, pc, ls, .inr (.inr x) :: .inl i :: .inr (.inl c) :: st, M) Q := by
  subst hn; exact pm_in ⟨_, _, hd, rfl, x, i, c, st, rfl, ⟨n, hc, hq⟩, h⟩
theorem x_alen {c n : Nat} (hd : Jvm.ClassFile.decode (pm_bytes k) pc = .ok (.arraylength, 1)) (hc : (pm_cells L)[c]? = some (.inl (0, n))) (hn : pc + 1 = nx) (hq : n ≤ 100000) (h : pm_X L (k, nx, ls, .inl n :: st, M) Q) : pm_X L (k, pc, ls, .inr (.inl c) :: st, M) Q := by
  subst hn; exact pm_in ⟨_, _, hd, rfl, c, st, n, rfl, hc, hq, h⟩
theorem x_dup {v : pm_V} (hd : Jvm.ClassFile.decode (pm_bytes k) pc = .ok (.dup, 1)) (hv : pm_is1 v = true) (hn : pc + 1 = nx) (h : pm_X L (k, nx, ls, v :: v :: st, M) Q) : pm_X L (k, pc, ls, v :: st, M) Q := by
  subst hn; exact pm_in ⟨_, _, hd, rfl, v, st, rfl, hv, h⟩
theorem x_dup_x1 {v w : pm_V} (hd : Jvm.ClassFile.decode (pm_bytes k) pc = .ok (.dup_x1, 1)) (hv : pm_is1 v = true) (hw : pm_is1 w = true) (hn : pc + 1 = nx) (h : pm_X L (k, nx, ls, v :: w :: v :: st, M) Q) : pm_X L (k, pc, ls, v :: w :: st, M) Q := by
  subst hn; exact pm_in ⟨_, _, hd, rfl, v, w, st, rfl, hv, hw, h⟩
theorem x_pop {v : pm_V} (hd : Jvm.ClassFile.decode (pm_bytes k) pc = .ok (.pop, 1)) (hv : pm_is1 v = true) (hn : pc + 1 = nx) (h : pm_X L (k, nx, ls, st, M) Q) : pm_X L (k, pc, ls, v :: st, M) Q := by
  subst hn; exact pm_in ⟨_, _, hd, rfl, v, st, rfl, hv, h⟩
theorem x_if {x : Int} {c : Jvm.ClassFile.Cond} {off : Int} {t : Nat} {C : Prop} (hd : Jvm.ClassFile.decode (pm_bytes k) pc = .ok (.ifCond c off, 3)) (ht : (pc : Int) + off = t) (hC : pm_cmp c x 0 ↔ C) (hn : pc + 3 = nx)
    (h : (C → pm_X L (k, t, ls, st, M) Q) ∧ (¬ C → pm_X L (k, nx, ls, st, M) Q)) : pm_X L (k, pc, ls, .inl x :: st, M) Q := by
  subst hn; exact pm_in ⟨_, _, hd, rfl, x, st, t, rfl, ht, fun z => h.1 (hC.mp z), fun z => h.2 (fun y => z (hC.mpr y))⟩
theorem x_icmp {x y : Int} {c : Jvm.ClassFile.Cond} {off : Int} {t : Nat} {C : Prop} (hd : Jvm.ClassFile.decode (pm_bytes k) pc = .ok (.if_icmp c off, 3)) (ht : (pc : Int) + off = t) (hC : pm_cmp c x y ↔ C) (hn : pc + 3 = nx)
    (h : (C → pm_X L (k, t, ls, st, M) Q) ∧ (¬ C → pm_X L (k, nx, ls, st, M) Q)) : pm_X L (k, pc, ls, .inl y :: .inl x :: st, M) Q := by
  subst hn; exact pm_in ⟨_, _, hd, rfl, x, y, st, t, rfl, ht, fun z => h.1 (hC.mp z), fun z => h.2 (fun y => z (hC.mpr y))⟩
theorem x_ifT {x : Int} {c : Jvm.ClassFile.Cond} {off : Int} {t : Nat} (hd : Jvm.ClassFile.decode (pm_bytes k) pc = .ok (.ifCond c off, 3)) (ht : (pc : Int) + off = t) (hC : pm_cmp c x 0) (h : pm_X L (k, t, ls, st, M) Q) : pm_X L (k, pc, ls, .inl x :: st, M) Q :=
  pm_in ⟨_, _, hd, rfl, x, st, t, rfl, ht, fun _ => h, fun z => absurd hC z⟩
theorem x_ifF {x : Int} {c : Jvm.ClassFile.Cond} {off : Int} {t : Nat} (hd : Jvm.ClassFile.decode (pm_bytes k) pc = .ok (.ifCond c off, 3)) (ht : (pc : Int) + off = t) (hC : ¬ pm_cmp c x 0) (hn : pc + 3 = nx) (h : pm_X L (k, nx, ls, st, M) Q) : pm_X L (k, pc, ls, .inl x :: st, M) Q := by
  subst hn; exact pm_in ⟨_, _, hd, rfl, x, st, t, rfl, ht, fun z => absurd z hC, fun _ => h⟩
theorem x_icmpT {x y : Int} {c : Jvm.ClassFile.Cond} {off : Int} {t : Nat} (hd : Jvm.ClassFile.decode (pm_bytes k) pc = .ok (.if_icmp c off, 3)) (ht : (pc : Int) + off = t) (hC : pm_cmp c x y) (h : pm_X L (k, t, ls, st, M) Q) : pm_X L (k, pc, ls, .inl y :: .inl x :: st, M) Q :=
  pm_in ⟨_, _, hd, rfl, x, y, st, t, rfl, ht, fun _ => h, fun z => absurd hC z⟩
theorem x_icmpF {x y : Int} {c : Jvm.ClassFile.Cond} {off : Int} {t : Nat} (hd : Jvm.ClassFile.decode (pm_bytes k) pc = .ok (.if_icmp c off, 3)) (ht : (pc : Int) + off = t) (hC : ¬ pm_cmp c x y) (hn : pc + 3 = nx) (h : pm_X L (k, nx, ls, st, M) Q) : pm_X L (k, pc, ls, .inl y :: .inl x :: st, M) Q := by
  subst hn; exact pm_in ⟨_, _, hd, rfl, x, y, st, t, rfl, ht, fun z => absurd z hC, fun _ => h⟩
theorem x_goto {off : Int} {t : Nat} (hd : Jvm.ClassFile.decode (pm_bytes k) pc = .ok (.goto off, 3)) (ht : (pc : Int) + off = t) (h : pm_X L (k, t, ls, st, M) Q) : pm_X L (k, pc, ls, st, M) Q :=
  pm_in ⟨_, _, hd, rfl, t, ht, h⟩
theorem x_swO {x d lo hi : Int} {offs : Array Int} {t : Nat} (hd : Jvm.ClassFile.decode (pm_bytes k) pc = .ok (.tableswitch d lo hi offs, len)) (ht : (pc : Int) + d = t) (hx : x < lo ∨ hi < x) (h : pm_X L (k, t, ls, st, M) Q) : pm_X L (k, pc, ls, .inl x :: st, M) Q :=
  pm_in ⟨_, _, hd, trivial, x, st, rfl, fun _ => ⟨t, ht, h⟩, fun z1 z2 => absurd hx (fun z => z.elim z1 z2)⟩
theorem x_swV {x v d lo hi off : Int} {offs : Array Int} {t : Nat} (hd : Jvm.ClassFile.decode (pm_bytes k) pc = .ok (.tableswitch d lo hi offs, len)) (hx : x = v) (hb : ¬ v < lo ∧ ¬ hi < v) (ho : offs[(v - lo).toNat]? = some off) (ht : (pc : Int) + off = t) (h : pm_X L (k, t, ls, st, M) Q) : pm_X L (k, pc, ls, .inl x :: st, M) Q := by
  subst hx; exact pm_in ⟨_, _, hd, trivial, x, st, rfl, fun z => absurd z (fun z => z.elim hb.1 hb.2), fun _ _ => ⟨off, t, ho, ht, h⟩⟩
theorem x_swI {x d lo hi off : Int} {offs : Array Int} {t : Nat} (hd : Jvm.ClassFile.decode (pm_bytes k) pc = .ok (.tableswitch d lo hi offs, len)) (hx : ¬ x < lo ∧ ¬ hi < x) (ho : offs[(x - lo).toNat]? = some off) (ht : (pc : Int) + off = t) (h : pm_X L (k, t, ls, st, M) Q) : pm_X L (k, pc, ls, .inl x :: st, M) Q :=
  pm_in ⟨_, _, hd, trivial, x, st, rfl, fun z => absurd z (fun z => z.elim hx.1 hx.2), fun _ _ => ⟨off, t, ho, ht, h⟩⟩
theorem x_callv {index k' n ci c : Nat} {as rest : List pm_V} {fs : List (Nat ⊕ Bool)} (hd : Jvm.ClassFile.decode (pm_bytes k) pc = .ok (.invokevirtual index, 3)) (hc : (pm_own k, index, k', n, some ci) ∈ pm_call) (hst : st = (.inr (.inl c) :: as).reverse ++ rest) (hl : as.length + 1 = n) (ha : as.all pm_is1 = true) (hr : (pm_cells L)[c]? = some (.inr (ci, fs))) (hw : pm_wt rest ≤ 8) {mL : Nat} (hm : pm_mL k' = mL) (he : pm_ent mL (.inr (.inl c) :: as) = ls')
    (h : pm_X L (k', 0, ls', [], M) (pm_back (pm_X L) k pc ls rest Q)) : pm_X L (k, pc, ls, st, M) Q := by
  subst hm; subst he; exact pm_in ⟨_, _, hd, rfl, k', n, some ci, .inr (.inl c) :: as, rest, hc, rfl, hst, hl, by rw [List.all_cons, ha]; rfl, ⟨c, as, fs, rfl, hr⟩, hw, h⟩
theorem x_calls {index k' n : Nat} {as rest : List pm_V} (hd : Jvm.ClassFile.decode (pm_bytes k) pc = .ok (.invokestatic index, 3)) (hc : (pm_own k, index, k', n, none) ∈ pm_call) (hst : st = as.reverse ++ rest) (hl : as.length = n) (ha : as.all pm_is1 = true) (hw : pm_wt rest ≤ 8) {mL : Nat} (hm : pm_mL k' = mL) (he : pm_ent mL as = ls')
    (h : pm_X L (k', 0, ls', [], M) (pm_back (pm_X L) k pc ls rest Q)) : pm_X L (k, pc, ls, st, M) Q := by
  subst hm; subst he; exact pm_in ⟨_, _, hd, rfl, k', n, none, as, rest, hc, rfl, hst, hl, ha, trivial, hw, h⟩
/-- a call whose contract is known -/
theorem x_backv {k' : Nat} {l0 : pm_L} {rest : List pm_V} {P : pm_P} (h : pm_X L (k', 0, l0, [], M) P) (hk : ∀ (r : pm_A) (M' : pm_M), P r M' → pm_back (pm_X L) k pc ls rest Q r M') : pm_X L (k', 0, l0, [], M) (pm_back (pm_X L) k pc ls rest Q) := pm_up h hk
theorem x_bki {x : Int} {rest : List pm_V} (hn : pc + 3 = nx) (h : pm_X L (k, nx, ls, .inl x :: rest, M) Q) : pm_back (pm_X L) k pc ls rest Q (.inl (some (.inl x))) M := by
  subst hn; exact h
theorem x_bkv {rest : List pm_V} (hn : pc + 3 = nx) (h : pm_X L (k, nx, ls, rest, M) Q) : pm_back (pm_X L) k pc ls rest Q (.inl none) M := by
  subst hn; exact h
theorem x_bkt {kd : Nat} {rest : List pm_V} (hh : pm_hnd.lookup (k, pc, kd) = none) (h : Q (.inr kd) M) : pm_back (pm_X L) k pc ls rest Q (.inr kd) M := by
  unfold pm_back; dsimp only; rw [hh]; exact h
theorem x_bkc {kd h0 i : Nat} {rest : List pm_V} (hh : pm_hnd.lookup (k, pc, kd) = some (h0, nx, i)) (hs : ls.set i none = ls') (h : pm_X L (k, nx, ls', [], M) Q) : pm_back (pm_X L) k pc ls rest Q (.inr kd) M := by
  subst hs; unfold pm_back; dsimp only; rw [hh]; exact h
theorem pm_get_c {a c : Nat} {b j x v : Int} (hc : ¬ a = c) (h : M a b = v) : pm_set M c j x a b = v := by
  unfold pm_set; rw [if_neg (fun z => hc z.1)]; exact h
theorem pm_get_j {a c : Nat} {b j x v : Int} (hj : ¬ b = j) (h : M a b = v) : pm_set M c j x a b = v := by
  unfold pm_set; rw [if_neg (fun z => hj z.2)]; exact h
theorem pm_get_e {c : Nat} {j x : Int} : pm_set M c j x c j = x := by
  unfold pm_set; rw [if_pos ⟨rfl, rfl⟩]
theorem x_ireti {x : Int} (hd : Jvm.ClassFile.decode (pm_bytes k) pc = .ok (.ireturn, 1)) (hr : pm_ret k = 1) (h : Q (.inl (some (.inl x))) M) : pm_X L (k, pc, ls, [.inl x], M) Q :=
  pm_in ⟨_, _, hd, rfl, x, rfl, .inl hr, h⟩
theorem x_iretz {x : Int} (hd : Jvm.ClassFile.decode (pm_bytes k) pc = .ok (.ireturn, 1)) (hr : pm_ret k = 2) (hq : pm_bit x) (h : Q (.inl (some (.inl x))) M) : pm_X L (k, pc, ls, [.inl x], M) Q :=
  pm_in ⟨_, _, hd, rfl, x, rfl, .inr ⟨hr, hq⟩, h⟩
theorem x_ret (hd : Jvm.ClassFile.decode (pm_bytes k) pc = .ok (.return_, 1)) (hr : pm_ret k = 0) (h : Q (.inl none) M) : pm_X L (k, pc, ls, [], M) Q :=
  pm_in ⟨_, _, hd, rfl, rfl, hr, h⟩
theorem x_throw {index kd : Nat} (hd : Jvm.ClassFile.decode (pm_bytes k) pc = .ok (.new index, 3)) (hc : (pm_own k, index, kd) ∈ pm_thr) (hq : 1 ≤ M 99 0) (h : Q (.inr kd) (pm_set M 99 0 (M 99 0 - 1))) : pm_X L (k, pc, ls, [], M) Q :=
  pm_in ⟨_, _, hd, rfl, kd, hc, rfl, hq, h⟩
end PMR
end
section
/-! fetch rows of the methods 0 to 19, laid by wip/whole/gen/fetch.py -/
theorem f0_12 : (0, 12, 0, 0) ∈ pm_fld := by decide
theorem f0_19 : (0, 19, 0, 1) ∈ pm_fld := by decide
theorem f0_28 : (0, 28, 0, 2) ∈ pm_fld := by decide
theorem f0_37 : (0, 37, 0, 3) ∈ pm_fld := by decide
theorem f0_41 : (0, 41, 0, 4) ∈ pm_fld := by decide
theorem f0_45 : (0, 45, 1, 7) ∈ pm_fld := by decide
theorem f0_83 : (0, 83, 0, 5) ∈ pm_fld := by decide
theorem f0_112 : (0, 112, 1, 5) ∈ pm_fld := by decide
theorem f0_115 : (0, 115, 1, 3) ∈ pm_fld := by decide
theorem f0_123 : (0, 123, 0, 6) ∈ pm_fld := by decide
theorem f0_126 : (0, 126, 1, 6) ∈ pm_fld := by decide
theorem f1_9 : (1, 9, 1, 0) ∈ pm_fld := by decide
theorem f1_15 : (1, 15, 1, 1) ∈ pm_fld := by decide
theorem f1_18 : (1, 18, 1, 2) ∈ pm_fld := by decide
theorem f1_21 : (1, 21, 1, 3) ∈ pm_fld := by decide
theorem f1_25 : (1, 25, 1, 4) ∈ pm_fld := by decide
theorem f1_28 : (1, 28, 1, 5) ∈ pm_fld := by decide
theorem f1_31 : (1, 31, 1, 6) ∈ pm_fld := by decide
theorem f1_35 : (1, 35, 1, 7) ∈ pm_fld := by decide
theorem f2_10 : (2, 10, 2, 0) ∈ pm_fld := by decide
theorem f2_16 : (2, 16, 2, 1) ∈ pm_fld := by decide
theorem f2_19 : (2, 19, 2, 2) ∈ pm_fld := by decide
theorem f2_23 : (2, 23, 2, 3) ∈ pm_fld := by decide
theorem f3_9 : (3, 9, 3, 1) ∈ pm_fld := by decide
theorem f3_15 : (3, 15, 3, 0) ∈ pm_fld := by decide
theorem f3_19 : (3, 19, 2, 2) ∈ pm_fld := by decide
theorem f3_25 : (3, 25, 3, 3) ∈ pm_fld := by decide
theorem f3_28 : (3, 28, 3, 4) ∈ pm_fld := by decide
theorem f3_40 : (3, 40, 3, 2) ∈ pm_fld := by decide
theorem f3_43 : (3, 43, 2, 1) ∈ pm_fld := by decide
theorem f3_46 : (3, 46, 2, 0) ∈ pm_fld := by decide
theorem f4_12 : (4, 12, 4, 3) ∈ pm_fld := by decide
theorem f4_18 : (4, 18, 4, 4) ∈ pm_fld := by decide
theorem f4_22 : (4, 22, 4, 5) ∈ pm_fld := by decide
theorem f4_25 : (4, 25, 4, 6) ∈ pm_fld := by decide
theorem f4_29 : (4, 29, 4, 7) ∈ pm_fld := by decide
theorem f4_32 : (4, 32, 4, 0) ∈ pm_fld := by decide
theorem f4_36 : (4, 36, 4, 1) ∈ pm_fld := by decide
theorem f4_40 : (4, 40, 4, 2) ∈ pm_fld := by decide
theorem f4_44 : (4, 44, 5, 0) ∈ pm_fld := by decide
theorem f4_73 : (4, 73, 4, 9) ∈ pm_fld := by decide
theorem f4_77 : (4, 77, 1, 6) ∈ pm_fld := by decide
theorem f4_85 : (4, 85, 2, 2) ∈ pm_fld := by decide
theorem f4_88 : (4, 88, 2, 0) ∈ pm_fld := by decide
theorem f4_91 : (4, 91, 2, 1) ∈ pm_fld := by decide
theorem f4_111 : (4, 111, 1, 7) ∈ pm_fld := by decide
theorem f4_114 : (4, 114, 1, 5) ∈ pm_fld := by decide
theorem f4_120 : (4, 120, 5, 4) ∈ pm_fld := by decide
theorem f4_123 : (4, 123, 5, 2) ∈ pm_fld := by decide
theorem f4_145 : (4, 145, 5, 1) ∈ pm_fld := by decide
theorem f4_157 : (4, 157, 4, 8) ∈ pm_fld := by decide
theorem f5_9 : (5, 9, 5, 0) ∈ pm_fld := by decide
theorem f5_15 : (5, 15, 5, 1) ∈ pm_fld := by decide
theorem f5_19 : (5, 19, 5, 2) ∈ pm_fld := by decide
theorem f5_22 : (5, 22, 5, 3) ∈ pm_fld := by decide
theorem f5_29 : (5, 29, 5, 5) ∈ pm_fld := by decide
theorem f5_37 : (5, 37, 5, 4) ∈ pm_fld := by decide
theorem f6_7 : (6, 7, 6, 0) ∈ pm_fld := by decide
theorem f6_13 : (6, 13, 6, 1) ∈ pm_fld := by decide
theorem f6_16 : (6, 16, 6, 2) ∈ pm_fld := by decide
theorem f6_19 : (6, 19, 6, 3) ∈ pm_fld := by decide
theorem f6_22 : (6, 22, 6, 4) ∈ pm_fld := by decide
theorem f6_26 : (6, 26, 6, 5) ∈ pm_fld := by decide
theorem f6_29 : (6, 29, 6, 6) ∈ pm_fld := by decide
theorem f6_32 : (6, 32, 6, 7) ∈ pm_fld := by decide
theorem f6_35 : (6, 35, 6, 8) ∈ pm_fld := by decide
theorem f6_38 : (6, 38, 6, 9) ∈ pm_fld := by decide
theorem f6_42 : (6, 42, 6, 10) ∈ pm_fld := by decide
theorem f6_45 : (6, 45, 6, 11) ∈ pm_fld := by decide
theorem f6_48 : (6, 48, 6, 12) ∈ pm_fld := by decide
theorem k0_56 : (0, 56, 18, 1, (some 0 : Option Nat)) ∈ pm_call := by decide
theorem k0_59 : (0, 59, 24, 1, (some 1 : Option Nat)) ∈ pm_call := by decide
theorem k0_63 : (0, 63, 17, 2, (some 0 : Option Nat)) ∈ pm_call := by decide
theorem k0_67 : (0, 67, 14, 1, (none : Option Nat)) ∈ pm_call := by decide
theorem k0_71 : (0, 71, 25, 4, (some 1 : Option Nat)) ∈ pm_call := by decide
theorem k0_80 : (0, 80, 15, 1, (none : Option Nat)) ∈ pm_call := by decide
theorem k0_88 : (0, 88, 19, 2, (some 0 : Option Nat)) ∈ pm_call := by decide
theorem k0_91 : (0, 91, 21, 1, (some 0 : Option Nat)) ∈ pm_call := by decide
theorem k0_95 : (0, 95, 22, 1, (some 0 : Option Nat)) ∈ pm_call := by decide
theorem k0_98 : (0, 98, 23, 2, (some 0 : Option Nat)) ∈ pm_call := by decide
theorem k0_106 : (0, 106, 20, 3, (some 0 : Option Nat)) ∈ pm_call := by decide
theorem k0_119 : (0, 119, 26, 2, (some 1 : Option Nat)) ∈ pm_call := by decide
theorem k0_133 : (0, 133, 32, 1, (some 2 : Option Nat)) ∈ pm_call := by decide
theorem k0_136 : (0, 136, 28, 1, (some 1 : Option Nat)) ∈ pm_call := by decide
theorem k0_139 : (0, 139, 33, 4, (some 2 : Option Nat)) ∈ pm_call := by decide
theorem k0_143 : (0, 143, 29, 2, (some 1 : Option Nat)) ∈ pm_call := by decide
theorem k0_146 : (0, 146, 30, 2, (some 1 : Option Nat)) ∈ pm_call := by decide
theorem k0_149 : (0, 149, 37, 1, (some 3 : Option Nat)) ∈ pm_call := by decide
theorem k0_152 : (0, 152, 43, 1, (some 4 : Option Nat)) ∈ pm_call := by decide
theorem k0_155 : (0, 155, 38, 1, (some 3 : Option Nat)) ∈ pm_call := by decide
theorem k0_158 : (0, 158, 42, 2, (some 4 : Option Nat)) ∈ pm_call := by decide
theorem k1_38 : (1, 38, 25, 4, (some 1 : Option Nat)) ∈ pm_call := by decide
theorem k1_42 : (1, 42, 27, 2, (some 1 : Option Nat)) ∈ pm_call := by decide
theorem k1_46 : (1, 46, 16, 1, (none : Option Nat)) ∈ pm_call := by decide
theorem k1_50 : (1, 50, 29, 2, (some 1 : Option Nat)) ∈ pm_call := by decide
theorem k1_54 : (1, 54, 31, 3, (some 1 : Option Nat)) ∈ pm_call := by decide
theorem k1_58 : (1, 58, 14, 1, (none : Option Nat)) ∈ pm_call := by decide
theorem k1_61 : (1, 61, 15, 1, (none : Option Nat)) ∈ pm_call := by decide
theorem k1_64 : (1, 64, 33, 4, (some 2 : Option Nat)) ∈ pm_call := by decide
theorem k2_26 : (2, 26, 15, 1, (none : Option Nat)) ∈ pm_call := by decide
theorem k2_30 : (2, 30, 34, 2, (some 2 : Option Nat)) ∈ pm_call := by decide
theorem k2_34 : (2, 34, 35, 1, (some 2 : Option Nat)) ∈ pm_call := by decide
theorem k3_32 : (3, 32, 40, 4, (some 3 : Option Nat)) ∈ pm_call := by decide
theorem k3_36 : (3, 36, 36, 2, (some 2 : Option Nat)) ∈ pm_call := by decide
theorem k3_49 : (3, 49, 41, 2, (some 3 : Option Nat)) ∈ pm_call := by decide
theorem k3_52 : (3, 52, 15, 1, (none : Option Nat)) ∈ pm_call := by decide
theorem k4_47 : (4, 47, 14, 1, (none : Option Nat)) ∈ pm_call := by decide
theorem k4_51 : (4, 51, 45, 1, (some 4 : Option Nat)) ∈ pm_call := by decide
theorem k4_55 : (4, 55, 46, 1, (some 4 : Option Nat)) ∈ pm_call := by decide
theorem k4_58 : (4, 58, 53, 2, (some 4 : Option Nat)) ∈ pm_call := by decide
theorem k4_61 : (4, 61, 36, 2, (some 2 : Option Nat)) ∈ pm_call := by decide
theorem k4_66 : (4, 66, 56, 2, (some 4 : Option Nat)) ∈ pm_call := by decide
theorem k4_70 : (4, 70, 57, 1, (some 5 : Option Nat)) ∈ pm_call := by decide
theorem k4_82 : (4, 82, 44, 1, (some 4 : Option Nat)) ∈ pm_call := by decide
theorem k4_94 : (4, 94, 52, 2, (some 4 : Option Nat)) ∈ pm_call := by decide
theorem k4_97 : (4, 97, 15, 1, (none : Option Nat)) ∈ pm_call := by decide
theorem k4_100 : (4, 100, 58, 2, (some 5 : Option Nat)) ∈ pm_call := by decide
theorem k4_104 : (4, 104, 60, 3, (some 5 : Option Nat)) ∈ pm_call := by decide
theorem k4_108 : (4, 108, 47, 1, (some 4 : Option Nat)) ∈ pm_call := by decide
theorem k4_117 : (4, 117, 59, 2, (some 5 : Option Nat)) ∈ pm_call := by decide
theorem k4_126 : (4, 126, 48, 2, (some 4 : Option Nat)) ∈ pm_call := by decide
theorem k4_129 : (4, 129, 49, 2, (some 4 : Option Nat)) ∈ pm_call := by decide
theorem k4_132 : (4, 132, 50, 3, (some 4 : Option Nat)) ∈ pm_call := by decide
theorem k4_135 : (4, 135, 51, 4, (some 4 : Option Nat)) ∈ pm_call := by decide
theorem k4_139 : (4, 139, 54, 2, (some 4 : Option Nat)) ∈ pm_call := by decide
theorem k4_142 : (4, 142, 16, 1, (none : Option Nat)) ∈ pm_call := by decide
theorem k4_148 : (4, 148, 34, 2, (some 2 : Option Nat)) ∈ pm_call := by decide
theorem k4_151 : (4, 151, 35, 1, (some 2 : Option Nat)) ∈ pm_call := by decide
theorem k4_154 : (4, 154, 55, 2, (some 4 : Option Nat)) ∈ pm_call := by decide
theorem k4_160 : (4, 160, 39, 4, (some 3 : Option Nat)) ∈ pm_call := by decide
theorem k4_166 : (4, 166, 61, 2, (some 5 : Option Nat)) ∈ pm_call := by decide
theorem k5_25 : (5, 25, 62, 2, (some 5 : Option Nat)) ∈ pm_call := by decide
theorem k5_33 : (5, 33, 15, 1, (none : Option Nat)) ∈ pm_call := by decide
theorem k5_40 : (5, 40, 60, 3, (some 5 : Option Nat)) ∈ pm_call := by decide
theorem k6_51 : (6, 51, 64, 3, (some 6 : Option Nat)) ∈ pm_call := by decide
theorem k6_55 : (6, 55, 66, 5, (some 6 : Option Nat)) ∈ pm_call := by decide
theorem k6_59 : (6, 59, 65, 2, (some 6 : Option Nat)) ∈ pm_call := by decide
theorem k6_63 : (6, 63, 75, 1, (some 6 : Option Nat)) ∈ pm_call := by decide
theorem k6_66 : (6, 66, 73, 1, (some 6 : Option Nat)) ∈ pm_call := by decide
theorem k6_69 : (6, 69, 74, 1, (some 6 : Option Nat)) ∈ pm_call := by decide
theorem k6_73 : (6, 73, 76, 1, (some 6 : Option Nat)) ∈ pm_call := by decide
theorem k6_76 : (6, 76, 77, 3, (some 6 : Option Nat)) ∈ pm_call := by decide
theorem k7_7 : (7, 7, 0, 1, (some 0 : Option Nat)) ∈ pm_call := by decide
theorem k7_15 : (7, 15, 1, 2, (some 0 : Option Nat)) ∈ pm_call := by decide
theorem k7_21 : (7, 21, 2, 4, (some 0 : Option Nat)) ∈ pm_call := by decide
theorem k7_27 : (7, 27, 3, 4, (some 0 : Option Nat)) ∈ pm_call := by decide
theorem k7_30 : (7, 30, 4, 2, (some 0 : Option Nat)) ∈ pm_call := by decide
theorem k7_33 : (7, 33, 8, 2, (some 0 : Option Nat)) ∈ pm_call := by decide
theorem k7_36 : (7, 36, 9, 3, (some 0 : Option Nat)) ∈ pm_call := by decide
theorem k7_40 : (7, 40, 10, 3, (some 0 : Option Nat)) ∈ pm_call := by decide
theorem k7_44 : (7, 44, 11, 2, (some 0 : Option Nat)) ∈ pm_call := by decide
theorem k7_52 : (7, 52, 86, 2, (none : Option Nat)) ∈ pm_call := by decide
theorem k7_57 : (7, 57, 67, 1, (some 6 : Option Nat)) ∈ pm_call := by decide
theorem k7_58 : (7, 58, 63, 1, (some 6 : Option Nat)) ∈ pm_call := by decide
theorem k7_61 : (7, 61, 87, 3, (none : Option Nat)) ∈ pm_call := by decide
theorem k7_64 : (7, 64, 68, 2, (some 6 : Option Nat)) ∈ pm_call := by decide
theorem k7_65 : (7, 65, 88, 5, (none : Option Nat)) ∈ pm_call := by decide
theorem k7_68 : (7, 68, 69, 4, (some 6 : Option Nat)) ∈ pm_call := by decide
theorem k7_69 : (7, 69, 89, 5, (none : Option Nat)) ∈ pm_call := by decide
theorem k7_71 : (7, 71, 70, 4, (some 6 : Option Nat)) ∈ pm_call := by decide
theorem k7_72 : (7, 72, 90, 3, (none : Option Nat)) ∈ pm_call := by decide
theorem k7_74 : (7, 74, 71, 2, (some 6 : Option Nat)) ∈ pm_call := by decide
theorem k7_75 : (7, 75, 5, 1, (some 0 : Option Nat)) ∈ pm_call := by decide
theorem k7_78 : (7, 78, 72, 1, (some 6 : Option Nat)) ∈ pm_call := by decide
theorem k7_79 : (7, 79, 6, 1, (some 0 : Option Nat)) ∈ pm_call := by decide
theorem k7_83 : (7, 83, 78, 1, (some 6 : Option Nat)) ∈ pm_call := by decide
theorem k7_84 : (7, 84, 7, 1, (some 0 : Option Nat)) ∈ pm_call := by decide
theorem k7_87 : (7, 87, 79, 1, (some 6 : Option Nat)) ∈ pm_call := by decide
theorem k7_88 : (7, 88, 91, 3, (none : Option Nat)) ∈ pm_call := by decide
theorem k7_90 : (7, 90, 80, 2, (some 6 : Option Nat)) ∈ pm_call := by decide
theorem k7_91 : (7, 91, 92, 4, (none : Option Nat)) ∈ pm_call := by decide
theorem k7_94 : (7, 94, 81, 3, (some 6 : Option Nat)) ∈ pm_call := by decide
theorem k7_95 : (7, 95, 93, 4, (none : Option Nat)) ∈ pm_call := by decide
theorem k7_98 : (7, 98, 82, 3, (some 6 : Option Nat)) ∈ pm_call := by decide
theorem k7_99 : (7, 99, 94, 3, (none : Option Nat)) ∈ pm_call := by decide
theorem k7_101 : (7, 101, 83, 2, (some 6 : Option Nat)) ∈ pm_call := by decide
theorem k7_102 : (7, 102, 12, 1, (some 0 : Option Nat)) ∈ pm_call := by decide
theorem k7_105 : (7, 105, 84, 1, (some 6 : Option Nat)) ∈ pm_call := by decide
theorem k7_106 : (7, 106, 13, 2, (some 0 : Option Nat)) ∈ pm_call := by decide
theorem k7_109 : (7, 109, 85, 2, (some 6 : Option Nat)) ∈ pm_call := by decide
theorem g_0 {L : Nat} : (pm_cells L)[0]? = some (.inr (0, [.inl 1, .inl 2, .inl 3, .inl 4, .inl 6, .inr false, .inr false])) := rfl
theorem g_1 {L : Nat} : (pm_cells L)[1]? = some (.inr (1, [.inl 7, .inl 8, .inl 9, .inl 10, .inl 11, .inl 12, .inr false, .inr false])) := rfl
theorem g_2 {L : Nat} : (pm_cells L)[2]? = some (.inr (2, [.inl 13, .inl 14, .inr false, .inr false])) := rfl
theorem g_3 {L : Nat} : (pm_cells L)[3]? = some (.inr (3, [.inl 2, .inl 15, .inr false, .inr false, .inr true])) := rfl
theorem g_4 {L : Nat} : (pm_cells L)[4]? = some (.inr (4, [.inl 1, .inl 2, .inl 3, .inl 5, .inl 16, .inl 17, .inl 18, .inl 19, .inr false, .inr false])) := rfl
theorem g_5 {L : Nat} : (pm_cells L)[5]? = some (.inr (5, [.inl 20, .inl 21, .inl 22, .inl 23, .inr false, .inr false])) := rfl
theorem g_6 {L : Nat} : (pm_cells L)[6]? = some (.inl (0, 20)) := rfl
theorem g_7 {L : Nat} : (pm_cells L)[7]? = some (.inl (0, 2000)) := rfl
theorem g_8 {L : Nat} : (pm_cells L)[8]? = some (.inl (0, 2000)) := rfl
theorem g_9 {L : Nat} : (pm_cells L)[9]? = some (.inl (0, 2000)) := rfl
theorem g_10 {L : Nat} : (pm_cells L)[10]? = some (.inl (1, 2000)) := rfl
theorem g_11 {L : Nat} : (pm_cells L)[11]? = some (.inl (1, 2000)) := rfl
theorem g_12 {L : Nat} : (pm_cells L)[12]? = some (.inl (0, 12)) := rfl
theorem g_13 {L : Nat} : (pm_cells L)[13]? = some (.inl (0, 85212)) := rfl
theorem g_14 {L : Nat} : (pm_cells L)[14]? = some (.inl (0, 16117)) := rfl
theorem g_15 {L : Nat} : (pm_cells L)[15]? = some (.inl (0, 4000)) := rfl
theorem g_16 {L : Nat} : (pm_cells L)[16]? = some (.inl (0, 4000)) := rfl
theorem g_17 {L : Nat} : (pm_cells L)[17]? = some (.inl (0, 32232)) := rfl
theorem g_18 {L : Nat} : (pm_cells L)[18]? = some (.inl (1, 2000)) := rfl
theorem g_19 {L : Nat} : (pm_cells L)[19]? = some (.inl (0, 2001)) := rfl
theorem g_20 {L : Nat} : (pm_cells L)[20]? = some (.inl (1, 4000)) := rfl
theorem g_21 {L : Nat} : (pm_cells L)[21]? = some (.inl (0, 4000)) := rfl
theorem g_22 {L : Nat} : (pm_cells L)[22]? = some (.inl (0, 2000)) := rfl
theorem g_23 {L : Nat} : (pm_cells L)[23]? = some (.inl (0, 12)) := rfl
theorem g_24 {L : Nat} : (pm_cells L)[24]? = some (.inr (6, [.inr false, .inr false, .inr false, .inr false, .inl 25, .inl 26, .inl 27, .inl 28, .inl 29, .inl 30, .inl 31, .inl 32, .inl 33])) := rfl
theorem g_25 {L : Nat} : (pm_cells L)[25]? = some (.inl (0, 2000)) := rfl
theorem g_26 {L : Nat} : (pm_cells L)[26]? = some (.inl (0, 2000)) := rfl
theorem g_27 {L : Nat} : (pm_cells L)[27]? = some (.inl (0, 2000)) := rfl
theorem g_28 {L : Nat} : (pm_cells L)[28]? = some (.inl (0, 2000)) := rfl
theorem g_29 {L : Nat} : (pm_cells L)[29]? = some (.inl (0, 20)) := rfl
theorem g_30 {L : Nat} : (pm_cells L)[30]? = some (.inl (1, 12)) := rfl
theorem g_31 {L : Nat} : (pm_cells L)[31]? = some (.inl (1, 12)) := rfl
theorem g_32 {L : Nat} : (pm_cells L)[32]? = some (.inl (1, 2000)) := rfl
theorem g_33 {L : Nat} : (pm_cells L)[33]? = some (.inl (0, 20)) := rfl
theorem g_34 {L : Nat} : (pm_cells L)[34]? = some (.inl (2, 1)) := rfl
theorem g_35 {L : Nat} : (pm_cells L)[35]? = some (.inl (0, L)) := rfl
theorem f_0_12 : (pm_own 0, 12, 0, 0) ∈ pm_fld := f0_12
theorem f_0_45 : (pm_own 0, 45, 1, 7) ∈ pm_fld := f0_45
theorem k_0_56 : (pm_own 0, 56, 18, 1, (some 0 : Option Nat)) ∈ pm_call := k0_56
theorem k_0_59 : (pm_own 0, 59, 24, 1, (some 1 : Option Nat)) ∈ pm_call := k0_59
theorem t_0_49 : (pm_own 0, 49, 1) ∈ pm_thr := by decide
theorem m_0 : pm_mL 0 = 1 := rfl
theorem r_0 : pm_ret 0 = 1 := rfl
theorem i_0_0 : Jvm.ClassFile.decode (pm_bytes 0) 0 = .ok (.aload_n 0, 1) := by decide +kernel
theorem i_0_1 : Jvm.ClassFile.decode (pm_bytes 0) 1 = .ok (.getfield 12, 3) := by decide +kernel
theorem i_0_4 : Jvm.ClassFile.decode (pm_bytes 0) 4 = .ok (.getfield 45, 3) := by decide +kernel
theorem i_0_7 : Jvm.ClassFile.decode (pm_bytes 0) 7 = .ok (.bipush (12), 2) := by decide +kernel
theorem i_0_9 : Jvm.ClassFile.decode (pm_bytes 0) 9 = .ok (.if_icmp .ne (13), 3) := by decide +kernel
theorem i_0_12 : Jvm.ClassFile.decode (pm_bytes 0) 12 = .ok (.new 49, 3) := by decide +kernel
theorem i_0_15 : Jvm.ClassFile.decode (pm_bytes 0) 15 = .ok (.dup, 1) := by decide +kernel
theorem i_0_22 : Jvm.ClassFile.decode (pm_bytes 0) 22 = .ok (.aload_n 0, 1) := by decide +kernel
theorem i_0_23 : Jvm.ClassFile.decode (pm_bytes 0) 23 = .ok (.invokevirtual 56, 3) := by decide +kernel
theorem i_0_26 : Jvm.ClassFile.decode (pm_bytes 0) 26 = .ok (.aload_n 0, 1) := by decide +kernel
theorem i_0_27 : Jvm.ClassFile.decode (pm_bytes 0) 27 = .ok (.getfield 12, 3) := by decide +kernel
theorem i_0_30 : Jvm.ClassFile.decode (pm_bytes 0) 30 = .ok (.invokevirtual 59, 3) := by decide +kernel
theorem i_0_33 : Jvm.ClassFile.decode (pm_bytes 0) 33 = .ok (.ireturn, 1) := by decide +kernel
theorem f_1_12 : (pm_own 1, 12, 0, 0) ∈ pm_fld := f0_12
theorem k_1_56 : (pm_own 1, 56, 18, 1, (some 0 : Option Nat)) ∈ pm_call := k0_56
theorem k_1_63 : (pm_own 1, 63, 17, 2, (some 0 : Option Nat)) ∈ pm_call := k0_63
theorem k_1_67 : (pm_own 1, 67, 14, 1, (none : Option Nat)) ∈ pm_call := k0_67
theorem k_1_71 : (pm_own 1, 71, 25, 4, (some 1 : Option Nat)) ∈ pm_call := k0_71
theorem m_1 : pm_mL 1 = 2 := rfl
theorem r_1 : pm_ret 1 = 1 := rfl
theorem i_1_0 : Jvm.ClassFile.decode (pm_bytes 1) 0 = .ok (.aload_n 0, 1) := by decide +kernel
theorem i_1_1 : Jvm.ClassFile.decode (pm_bytes 1) 1 = .ok (.iload_n 1, 1) := by decide +kernel
theorem i_1_2 : Jvm.ClassFile.decode (pm_bytes 1) 2 = .ok (.invokevirtual 63, 3) := by decide +kernel
theorem i_1_5 : Jvm.ClassFile.decode (pm_bytes 1) 5 = .ok (.aload_n 0, 1) := by decide +kernel
theorem i_1_6 : Jvm.ClassFile.decode (pm_bytes 1) 6 = .ok (.invokevirtual 56, 3) := by decide +kernel
theorem i_1_9 : Jvm.ClassFile.decode (pm_bytes 1) 9 = .ok (.aload_n 0, 1) := by decide +kernel
theorem i_1_10 : Jvm.ClassFile.decode (pm_bytes 1) 10 = .ok (.getfield 12, 3) := by decide +kernel
theorem i_1_13 : Jvm.ClassFile.decode (pm_bytes 1) 13 = .ok (.iload_n 1, 1) := by decide +kernel
theorem i_1_14 : Jvm.ClassFile.decode (pm_bytes 1) 14 = .ok (.invokestatic 67, 3) := by decide +kernel
theorem i_1_17 : Jvm.ClassFile.decode (pm_bytes 1) 17 = .ok (.iconst 0, 1) := by decide +kernel
theorem i_1_18 : Jvm.ClassFile.decode (pm_bytes 1) 18 = .ok (.iconst 1, 1) := by decide +kernel
theorem i_1_19 : Jvm.ClassFile.decode (pm_bytes 1) 19 = .ok (.invokevirtual 71, 3) := by decide +kernel
theorem i_1_22 : Jvm.ClassFile.decode (pm_bytes 1) 22 = .ok (.ireturn, 1) := by decide +kernel
theorem f_2_12 : (pm_own 2, 12, 0, 0) ∈ pm_fld := f0_12
theorem k_2_56 : (pm_own 2, 56, 18, 1, (some 0 : Option Nat)) ∈ pm_call := k0_56
theorem k_2_63 : (pm_own 2, 63, 17, 2, (some 0 : Option Nat)) ∈ pm_call := k0_63
theorem k_2_67 : (pm_own 2, 67, 14, 1, (none : Option Nat)) ∈ pm_call := k0_67
theorem k_2_71 : (pm_own 2, 71, 25, 4, (some 1 : Option Nat)) ∈ pm_call := k0_71
theorem k_2_80 : (pm_own 2, 80, 15, 1, (none : Option Nat)) ∈ pm_call := k0_80
theorem t_2_75 : (pm_own 2, 75, 2) ∈ pm_thr := by decide
theorem m_2 : pm_mL 2 = 4 := rfl
theorem r_2 : pm_ret 2 = 1 := rfl
theorem i_2_0 : Jvm.ClassFile.decode (pm_bytes 2) 0 = .ok (.aload_n 0, 1) := by decide +kernel
theorem i_2_1 : Jvm.ClassFile.decode (pm_bytes 2) 1 = .ok (.iload_n 2, 1) := by decide +kernel
theorem i_2_2 : Jvm.ClassFile.decode (pm_bytes 2) 2 = .ok (.invokevirtual 63, 3) := by decide +kernel
theorem i_2_5 : Jvm.ClassFile.decode (pm_bytes 2) 5 = .ok (.aload_n 0, 1) := by decide +kernel
theorem i_2_6 : Jvm.ClassFile.decode (pm_bytes 2) 6 = .ok (.iload_n 3, 1) := by decide +kernel
theorem i_2_7 : Jvm.ClassFile.decode (pm_bytes 2) 7 = .ok (.invokevirtual 63, 3) := by decide +kernel
theorem i_2_10 : Jvm.ClassFile.decode (pm_bytes 2) 10 = .ok (.iload_n 1, 1) := by decide +kernel
theorem i_2_11 : Jvm.ClassFile.decode (pm_bytes 2) 11 = .ok (.ifCond .eq (23), 3) := by decide +kernel
theorem i_2_14 : Jvm.ClassFile.decode (pm_bytes 2) 14 = .ok (.iload_n 1, 1) := by decide +kernel
theorem i_2_15 : Jvm.ClassFile.decode (pm_bytes 2) 15 = .ok (.iconst 1, 1) := by decide +kernel
theorem i_2_16 : Jvm.ClassFile.decode (pm_bytes 2) 16 = .ok (.if_icmp .eq (18), 3) := by decide +kernel
theorem i_2_19 : Jvm.ClassFile.decode (pm_bytes 2) 19 = .ok (.iload_n 1, 1) := by decide +kernel
theorem i_2_20 : Jvm.ClassFile.decode (pm_bytes 2) 20 = .ok (.iconst 2, 1) := by decide +kernel
theorem i_2_21 : Jvm.ClassFile.decode (pm_bytes 2) 21 = .ok (.if_icmp .eq (13), 3) := by decide +kernel
theorem i_2_24 : Jvm.ClassFile.decode (pm_bytes 2) 24 = .ok (.new 75, 3) := by decide +kernel
theorem i_2_27 : Jvm.ClassFile.decode (pm_bytes 2) 27 = .ok (.dup, 1) := by decide +kernel
theorem i_2_34 : Jvm.ClassFile.decode (pm_bytes 2) 34 = .ok (.aload_n 0, 1) := by decide +kernel
theorem i_2_35 : Jvm.ClassFile.decode (pm_bytes 2) 35 = .ok (.invokevirtual 56, 3) := by decide +kernel
theorem i_2_38 : Jvm.ClassFile.decode (pm_bytes 2) 38 = .ok (.iload_n 1, 1) := by decide +kernel
theorem i_2_39 : Jvm.ClassFile.decode (pm_bytes 2) 39 = .ok (.ifCond .ne (20), 3) := by decide +kernel
theorem i_2_42 : Jvm.ClassFile.decode (pm_bytes 2) 42 = .ok (.aload_n 0, 1) := by decide +kernel
theorem i_2_43 : Jvm.ClassFile.decode (pm_bytes 2) 43 = .ok (.getfield 12, 3) := by decide +kernel
theorem i_2_46 : Jvm.ClassFile.decode (pm_bytes 2) 46 = .ok (.iload_n 2, 1) := by decide +kernel
theorem i_2_47 : Jvm.ClassFile.decode (pm_bytes 2) 47 = .ok (.invokestatic 67, 3) := by decide +kernel
theorem i_2_50 : Jvm.ClassFile.decode (pm_bytes 2) 50 = .ok (.iload_n 3, 1) := by decide +kernel
theorem i_2_51 : Jvm.ClassFile.decode (pm_bytes 2) 51 = .ok (.invokestatic 67, 3) := by decide +kernel
theorem i_2_54 : Jvm.ClassFile.decode (pm_bytes 2) 54 = .ok (.iconst 0, 1) := by decide +kernel
theorem i_2_55 : Jvm.ClassFile.decode (pm_bytes 2) 55 = .ok (.invokevirtual 71, 3) := by decide +kernel
theorem i_2_58 : Jvm.ClassFile.decode (pm_bytes 2) 58 = .ok (.ireturn, 1) := by decide +kernel
theorem i_2_59 : Jvm.ClassFile.decode (pm_bytes 2) 59 = .ok (.iload_n 1, 1) := by decide +kernel
theorem i_2_60 : Jvm.ClassFile.decode (pm_bytes 2) 60 = .ok (.iconst 1, 1) := by decide +kernel
theorem i_2_61 : Jvm.ClassFile.decode (pm_bytes 2) 61 = .ok (.if_icmp .ne (20), 3) := by decide +kernel
theorem i_2_64 : Jvm.ClassFile.decode (pm_bytes 2) 64 = .ok (.aload_n 0, 1) := by decide +kernel
theorem i_2_65 : Jvm.ClassFile.decode (pm_bytes 2) 65 = .ok (.getfield 12, 3) := by decide +kernel
theorem i_2_68 : Jvm.ClassFile.decode (pm_bytes 2) 68 = .ok (.iload_n 2, 1) := by decide +kernel
theorem i_2_69 : Jvm.ClassFile.decode (pm_bytes 2) 69 = .ok (.invokestatic 67, 3) := by decide +kernel
theorem i_2_72 : Jvm.ClassFile.decode (pm_bytes 2) 72 = .ok (.iconst 1, 1) := by decide +kernel
theorem i_2_73 : Jvm.ClassFile.decode (pm_bytes 2) 73 = .ok (.iload_n 3, 1) := by decide +kernel
theorem i_2_74 : Jvm.ClassFile.decode (pm_bytes 2) 74 = .ok (.invokestatic 67, 3) := by decide +kernel
theorem i_2_77 : Jvm.ClassFile.decode (pm_bytes 2) 77 = .ok (.invokevirtual 71, 3) := by decide +kernel
theorem i_2_80 : Jvm.ClassFile.decode (pm_bytes 2) 80 = .ok (.ireturn, 1) := by decide +kernel
theorem i_2_81 : Jvm.ClassFile.decode (pm_bytes 2) 81 = .ok (.aload_n 0, 1) := by decide +kernel
theorem i_2_82 : Jvm.ClassFile.decode (pm_bytes 2) 82 = .ok (.getfield 12, 3) := by decide +kernel
theorem i_2_85 : Jvm.ClassFile.decode (pm_bytes 2) 85 = .ok (.iload_n 2, 1) := by decide +kernel
theorem i_2_86 : Jvm.ClassFile.decode (pm_bytes 2) 86 = .ok (.invokestatic 67, 3) := by decide +kernel
theorem i_2_89 : Jvm.ClassFile.decode (pm_bytes 2) 89 = .ok (.iload_n 3, 1) := by decide +kernel
theorem i_2_90 : Jvm.ClassFile.decode (pm_bytes 2) 90 = .ok (.invokestatic 67, 3) := by decide +kernel
theorem i_2_93 : Jvm.ClassFile.decode (pm_bytes 2) 93 = .ok (.invokestatic 80, 3) := by decide +kernel
theorem i_2_96 : Jvm.ClassFile.decode (pm_bytes 2) 96 = .ok (.iload_n 3, 1) := by decide +kernel
theorem i_2_97 : Jvm.ClassFile.decode (pm_bytes 2) 97 = .ok (.invokestatic 67, 3) := by decide +kernel
theorem i_2_100 : Jvm.ClassFile.decode (pm_bytes 2) 100 = .ok (.invokevirtual 71, 3) := by decide +kernel
theorem i_2_103 : Jvm.ClassFile.decode (pm_bytes 2) 103 = .ok (.ireturn, 1) := by decide +kernel
theorem f_3_12 : (pm_own 3, 12, 0, 0) ∈ pm_fld := f0_12
theorem k_3_56 : (pm_own 3, 56, 18, 1, (some 0 : Option Nat)) ∈ pm_call := k0_56
theorem k_3_63 : (pm_own 3, 63, 17, 2, (some 0 : Option Nat)) ∈ pm_call := k0_63
theorem k_3_67 : (pm_own 3, 67, 14, 1, (none : Option Nat)) ∈ pm_call := k0_67
theorem k_3_71 : (pm_own 3, 71, 25, 4, (some 1 : Option Nat)) ∈ pm_call := k0_71
theorem m_3 : pm_mL 3 = 4 := rfl
theorem r_3 : pm_ret 3 = 1 := rfl
theorem i_3_0 : Jvm.ClassFile.decode (pm_bytes 3) 0 = .ok (.aload_n 0, 1) := by decide +kernel
theorem i_3_1 : Jvm.ClassFile.decode (pm_bytes 3) 1 = .ok (.iload_n 1, 1) := by decide +kernel
theorem i_3_2 : Jvm.ClassFile.decode (pm_bytes 3) 2 = .ok (.invokevirtual 63, 3) := by decide +kernel
theorem i_3_5 : Jvm.ClassFile.decode (pm_bytes 3) 5 = .ok (.aload_n 0, 1) := by decide +kernel
theorem i_3_6 : Jvm.ClassFile.decode (pm_bytes 3) 6 = .ok (.iload_n 2, 1) := by decide +kernel
theorem i_3_7 : Jvm.ClassFile.decode (pm_bytes 3) 7 = .ok (.invokevirtual 63, 3) := by decide +kernel
theorem i_3_10 : Jvm.ClassFile.decode (pm_bytes 3) 10 = .ok (.aload_n 0, 1) := by decide +kernel
theorem i_3_11 : Jvm.ClassFile.decode (pm_bytes 3) 11 = .ok (.iload_n 3, 1) := by decide +kernel
theorem i_3_12 : Jvm.ClassFile.decode (pm_bytes 3) 12 = .ok (.invokevirtual 63, 3) := by decide +kernel
theorem i_3_15 : Jvm.ClassFile.decode (pm_bytes 3) 15 = .ok (.aload_n 0, 1) := by decide +kernel
theorem i_3_16 : Jvm.ClassFile.decode (pm_bytes 3) 16 = .ok (.invokevirtual 56, 3) := by decide +kernel
theorem i_3_19 : Jvm.ClassFile.decode (pm_bytes 3) 19 = .ok (.aload_n 0, 1) := by decide +kernel
theorem i_3_20 : Jvm.ClassFile.decode (pm_bytes 3) 20 = .ok (.getfield 12, 3) := by decide +kernel
theorem i_3_23 : Jvm.ClassFile.decode (pm_bytes 3) 23 = .ok (.iload_n 1, 1) := by decide +kernel
theorem i_3_24 : Jvm.ClassFile.decode (pm_bytes 3) 24 = .ok (.invokestatic 67, 3) := by decide +kernel
theorem i_3_27 : Jvm.ClassFile.decode (pm_bytes 3) 27 = .ok (.iload_n 2, 1) := by decide +kernel
theorem i_3_28 : Jvm.ClassFile.decode (pm_bytes 3) 28 = .ok (.invokestatic 67, 3) := by decide +kernel
theorem i_3_31 : Jvm.ClassFile.decode (pm_bytes 3) 31 = .ok (.iload_n 3, 1) := by decide +kernel
theorem i_3_32 : Jvm.ClassFile.decode (pm_bytes 3) 32 = .ok (.invokestatic 67, 3) := by decide +kernel
theorem i_3_35 : Jvm.ClassFile.decode (pm_bytes 3) 35 = .ok (.invokevirtual 71, 3) := by decide +kernel
theorem i_3_38 : Jvm.ClassFile.decode (pm_bytes 3) 38 = .ok (.ireturn, 1) := by decide +kernel
theorem f_4_41 : (pm_own 4, 41, 0, 4) ∈ pm_fld := f0_41
theorem f_4_83 : (pm_own 4, 83, 0, 5) ∈ pm_fld := f0_83
theorem k_4_63 : (pm_own 4, 63, 17, 2, (some 0 : Option Nat)) ∈ pm_call := k0_63
theorem t_4_49 : (pm_own 4, 49, 1) ∈ pm_thr := by decide
theorem m_4 : pm_mL 4 = 2 := rfl
theorem r_4 : pm_ret 4 = 1 := rfl
theorem i_4_0 : Jvm.ClassFile.decode (pm_bytes 4) 0 = .ok (.aload_n 0, 1) := by decide +kernel
theorem i_4_1 : Jvm.ClassFile.decode (pm_bytes 4) 1 = .ok (.iload_n 1, 1) := by decide +kernel
theorem i_4_2 : Jvm.ClassFile.decode (pm_bytes 4) 2 = .ok (.invokevirtual 63, 3) := by decide +kernel
theorem i_4_5 : Jvm.ClassFile.decode (pm_bytes 4) 5 = .ok (.aload_n 0, 1) := by decide +kernel
theorem i_4_6 : Jvm.ClassFile.decode (pm_bytes 4) 6 = .ok (.getfield 83, 3) := by decide +kernel
theorem i_4_9 : Jvm.ClassFile.decode (pm_bytes 4) 9 = .ok (.bipush (20), 2) := by decide +kernel
theorem i_4_11 : Jvm.ClassFile.decode (pm_bytes 4) 11 = .ok (.if_icmp .ne (13), 3) := by decide +kernel
theorem i_4_14 : Jvm.ClassFile.decode (pm_bytes 4) 14 = .ok (.new 49, 3) := by decide +kernel
theorem i_4_17 : Jvm.ClassFile.decode (pm_bytes 4) 17 = .ok (.dup, 1) := by decide +kernel
theorem i_4_24 : Jvm.ClassFile.decode (pm_bytes 4) 24 = .ok (.aload_n 0, 1) := by decide +kernel
theorem i_4_25 : Jvm.ClassFile.decode (pm_bytes 4) 25 = .ok (.getfield 41, 3) := by decide +kernel
theorem i_4_28 : Jvm.ClassFile.decode (pm_bytes 4) 28 = .ok (.aload_n 0, 1) := by decide +kernel
theorem i_4_29 : Jvm.ClassFile.decode (pm_bytes 4) 29 = .ok (.getfield 83, 3) := by decide +kernel
theorem i_4_32 : Jvm.ClassFile.decode (pm_bytes 4) 32 = .ok (.iload_n 1, 1) := by decide +kernel
theorem i_4_33 : Jvm.ClassFile.decode (pm_bytes 4) 33 = .ok (.iastore, 1) := by decide +kernel
theorem i_4_34 : Jvm.ClassFile.decode (pm_bytes 4) 34 = .ok (.aload_n 0, 1) := by decide +kernel
theorem i_4_35 : Jvm.ClassFile.decode (pm_bytes 4) 35 = .ok (.dup, 1) := by decide +kernel
theorem i_4_36 : Jvm.ClassFile.decode (pm_bytes 4) 36 = .ok (.getfield 83, 3) := by decide +kernel
theorem i_4_39 : Jvm.ClassFile.decode (pm_bytes 4) 39 = .ok (.iconst 1, 1) := by decide +kernel
theorem i_4_40 : Jvm.ClassFile.decode (pm_bytes 4) 40 = .ok (.iadd, 1) := by decide +kernel
theorem i_4_41 : Jvm.ClassFile.decode (pm_bytes 4) 41 = .ok (.putfield 83, 3) := by decide +kernel
theorem i_4_44 : Jvm.ClassFile.decode (pm_bytes 4) 44 = .ok (.aload_n 0, 1) := by decide +kernel
theorem i_4_45 : Jvm.ClassFile.decode (pm_bytes 4) 45 = .ok (.getfield 83, 3) := by decide +kernel
theorem i_4_48 : Jvm.ClassFile.decode (pm_bytes 4) 48 = .ok (.ireturn, 1) := by decide +kernel
theorem f_5_83 : (pm_own 5, 83, 0, 5) ∈ pm_fld := f0_83
theorem m_5 : pm_mL 5 = 2 := rfl
theorem r_5 : pm_ret 5 = 1 := rfl
theorem i_5_0 : Jvm.ClassFile.decode (pm_bytes 5) 0 = .ok (.aload_n 0, 1) := by decide +kernel
theorem i_5_1 : Jvm.ClassFile.decode (pm_bytes 5) 1 = .ok (.getfield 83, 3) := by decide +kernel
theorem i_5_4 : Jvm.ClassFile.decode (pm_bytes 5) 4 = .ok (.istore_n 1, 1) := by decide +kernel
theorem i_5_5 : Jvm.ClassFile.decode (pm_bytes 5) 5 = .ok (.aload_n 0, 1) := by decide +kernel
theorem i_5_6 : Jvm.ClassFile.decode (pm_bytes 5) 6 = .ok (.iconst 0, 1) := by decide +kernel
theorem i_5_7 : Jvm.ClassFile.decode (pm_bytes 5) 7 = .ok (.putfield 83, 3) := by decide +kernel
theorem i_5_10 : Jvm.ClassFile.decode (pm_bytes 5) 10 = .ok (.iload_n 1, 1) := by decide +kernel
theorem i_5_11 : Jvm.ClassFile.decode (pm_bytes 5) 11 = .ok (.ireturn, 1) := by decide +kernel
theorem k_6_88 : (pm_own 6, 88, 19, 2, (some 0 : Option Nat)) ∈ pm_call := k0_88
theorem k_6_91 : (pm_own 6, 91, 21, 1, (some 0 : Option Nat)) ∈ pm_call := k0_91
theorem k_6_95 : (pm_own 6, 95, 22, 1, (some 0 : Option Nat)) ∈ pm_call := k0_95
theorem m_6 : pm_mL 6 = 2 := rfl
theorem r_6 : pm_ret 6 = 2 := rfl
theorem i_6_0 : Jvm.ClassFile.decode (pm_bytes 6) 0 = .ok (.aload_n 0, 1) := by decide +kernel
theorem i_6_1 : Jvm.ClassFile.decode (pm_bytes 6) 1 = .ok (.iconst (-1), 1) := by decide +kernel
theorem i_6_2 : Jvm.ClassFile.decode (pm_bytes 6) 2 = .ok (.invokevirtual 88, 3) := by decide +kernel
theorem i_6_5 : Jvm.ClassFile.decode (pm_bytes 6) 5 = .ok (.aload_n 0, 1) := by decide +kernel
theorem i_6_6 : Jvm.ClassFile.decode (pm_bytes 6) 6 = .ok (.invokevirtual 91, 3) := by decide +kernel
theorem i_6_9 : Jvm.ClassFile.decode (pm_bytes 6) 9 = .ok (.istore_n 1, 1) := by decide +kernel
theorem i_6_10 : Jvm.ClassFile.decode (pm_bytes 6) 10 = .ok (.iload_n 1, 1) := by decide +kernel
theorem i_6_11 : Jvm.ClassFile.decode (pm_bytes 6) 11 = .ok (.ifCond .eq (7), 3) := by decide +kernel
theorem i_6_14 : Jvm.ClassFile.decode (pm_bytes 6) 14 = .ok (.aload_n 0, 1) := by decide +kernel
theorem i_6_15 : Jvm.ClassFile.decode (pm_bytes 6) 15 = .ok (.invokevirtual 95, 3) := by decide +kernel
theorem i_6_18 : Jvm.ClassFile.decode (pm_bytes 6) 18 = .ok (.iload_n 1, 1) := by decide +kernel
theorem i_6_19 : Jvm.ClassFile.decode (pm_bytes 6) 19 = .ok (.ireturn, 1) := by decide +kernel
theorem f_7_83 : (pm_own 7, 83, 0, 5) ∈ pm_fld := f0_83
theorem k_7_88 : (pm_own 7, 88, 19, 2, (some 0 : Option Nat)) ∈ pm_call := k0_88
theorem k_7_91 : (pm_own 7, 91, 21, 1, (some 0 : Option Nat)) ∈ pm_call := k0_91
theorem k_7_98 : (pm_own 7, 98, 23, 2, (some 0 : Option Nat)) ∈ pm_call := k0_98
theorem m_7 : pm_mL 7 = 3 := rfl
theorem r_7 : pm_ret 7 = 1 := rfl
theorem i_7_0 : Jvm.ClassFile.decode (pm_bytes 7) 0 = .ok (.aload_n 0, 1) := by decide +kernel
theorem i_7_1 : Jvm.ClassFile.decode (pm_bytes 7) 1 = .ok (.iconst (-1), 1) := by decide +kernel
theorem i_7_2 : Jvm.ClassFile.decode (pm_bytes 7) 2 = .ok (.invokevirtual 88, 3) := by decide +kernel
theorem i_7_5 : Jvm.ClassFile.decode (pm_bytes 7) 5 = .ok (.aload_n 0, 1) := by decide +kernel
theorem i_7_6 : Jvm.ClassFile.decode (pm_bytes 7) 6 = .ok (.invokevirtual 91, 3) := by decide +kernel
theorem i_7_9 : Jvm.ClassFile.decode (pm_bytes 7) 9 = .ok (.ifCond .eq (5), 3) := by decide +kernel
theorem i_7_12 : Jvm.ClassFile.decode (pm_bytes 7) 12 = .ok (.iconst (-1), 1) := by decide +kernel
theorem i_7_13 : Jvm.ClassFile.decode (pm_bytes 7) 13 = .ok (.ireturn, 1) := by decide +kernel
theorem i_7_14 : Jvm.ClassFile.decode (pm_bytes 7) 14 = .ok (.iconst 0, 1) := by decide +kernel
theorem i_7_15 : Jvm.ClassFile.decode (pm_bytes 7) 15 = .ok (.istore_n 1, 1) := by decide +kernel
theorem i_7_16 : Jvm.ClassFile.decode (pm_bytes 7) 16 = .ok (.aload_n 0, 1) := by decide +kernel
theorem i_7_17 : Jvm.ClassFile.decode (pm_bytes 7) 17 = .ok (.getfield 83, 3) := by decide +kernel
theorem i_7_20 : Jvm.ClassFile.decode (pm_bytes 7) 20 = .ok (.istore_n 2, 1) := by decide +kernel
theorem i_7_21 : Jvm.ClassFile.decode (pm_bytes 7) 21 = .ok (.iload_n 2, 1) := by decide +kernel
theorem i_7_22 : Jvm.ClassFile.decode (pm_bytes 7) 22 = .ok (.ifCond .le (32), 3) := by decide +kernel
theorem i_7_25 : Jvm.ClassFile.decode (pm_bytes 7) 25 = .ok (.aload_n 0, 1) := by decide +kernel
theorem i_7_26 : Jvm.ClassFile.decode (pm_bytes 7) 26 = .ok (.iload_n 1, 1) := by decide +kernel
theorem i_7_27 : Jvm.ClassFile.decode (pm_bytes 7) 27 = .ok (.invokevirtual 88, 3) := by decide +kernel
theorem i_7_30 : Jvm.ClassFile.decode (pm_bytes 7) 30 = .ok (.aload_n 0, 1) := by decide +kernel
theorem i_7_31 : Jvm.ClassFile.decode (pm_bytes 7) 31 = .ok (.invokevirtual 91, 3) := by decide +kernel
theorem i_7_34 : Jvm.ClassFile.decode (pm_bytes 7) 34 = .ok (.ifCond .eq (9), 3) := by decide +kernel
theorem i_7_37 : Jvm.ClassFile.decode (pm_bytes 7) 37 = .ok (.iinc 1 (1), 3) := by decide +kernel
theorem i_7_40 : Jvm.ClassFile.decode (pm_bytes 7) 40 = .ok (.goto (8), 3) := by decide +kernel
theorem i_7_43 : Jvm.ClassFile.decode (pm_bytes 7) 43 = .ok (.aload_n 0, 1) := by decide +kernel
theorem i_7_44 : Jvm.ClassFile.decode (pm_bytes 7) 44 = .ok (.iload_n 1, 1) := by decide +kernel
theorem i_7_45 : Jvm.ClassFile.decode (pm_bytes 7) 45 = .ok (.invokevirtual 98, 3) := by decide +kernel
theorem i_7_48 : Jvm.ClassFile.decode (pm_bytes 7) 48 = .ok (.iinc 2 (-1), 3) := by decide +kernel
theorem i_7_51 : Jvm.ClassFile.decode (pm_bytes 7) 51 = .ok (.goto (-30), 3) := by decide +kernel
theorem i_7_54 : Jvm.ClassFile.decode (pm_bytes 7) 54 = .ok (.aload_n 0, 1) := by decide +kernel
theorem i_7_55 : Jvm.ClassFile.decode (pm_bytes 7) 55 = .ok (.getfield 83, 3) := by decide +kernel
theorem i_7_58 : Jvm.ClassFile.decode (pm_bytes 7) 58 = .ok (.ireturn, 1) := by decide +kernel
theorem f_8_41 : (pm_own 8, 41, 0, 4) ∈ pm_fld := f0_41
theorem f_8_83 : (pm_own 8, 83, 0, 5) ∈ pm_fld := f0_83
theorem t_8_101 : (pm_own 8, 101, 0) ∈ pm_thr := by decide
theorem m_8 : pm_mL 8 = 2 := rfl
theorem r_8 : pm_ret 8 = 1 := rfl
theorem i_8_0 : Jvm.ClassFile.decode (pm_bytes 8) 0 = .ok (.iload_n 1, 1) := by decide +kernel
theorem i_8_1 : Jvm.ClassFile.decode (pm_bytes 8) 1 = .ok (.ifCond .lt (11), 3) := by decide +kernel
theorem i_8_4 : Jvm.ClassFile.decode (pm_bytes 8) 4 = .ok (.iload_n 1, 1) := by decide +kernel
theorem i_8_5 : Jvm.ClassFile.decode (pm_bytes 8) 5 = .ok (.aload_n 0, 1) := by decide +kernel
theorem i_8_6 : Jvm.ClassFile.decode (pm_bytes 8) 6 = .ok (.getfield 83, 3) := by decide +kernel
theorem i_8_9 : Jvm.ClassFile.decode (pm_bytes 8) 9 = .ok (.if_icmp .lt (13), 3) := by decide +kernel
theorem i_8_12 : Jvm.ClassFile.decode (pm_bytes 8) 12 = .ok (.new 101, 3) := by decide +kernel
theorem i_8_15 : Jvm.ClassFile.decode (pm_bytes 8) 15 = .ok (.dup, 1) := by decide +kernel
theorem i_8_22 : Jvm.ClassFile.decode (pm_bytes 8) 22 = .ok (.aload_n 0, 1) := by decide +kernel
theorem i_8_23 : Jvm.ClassFile.decode (pm_bytes 8) 23 = .ok (.getfield 41, 3) := by decide +kernel
theorem i_8_26 : Jvm.ClassFile.decode (pm_bytes 8) 26 = .ok (.iload_n 1, 1) := by decide +kernel
theorem i_8_27 : Jvm.ClassFile.decode (pm_bytes 8) 27 = .ok (.iaload, 1) := by decide +kernel
theorem i_8_28 : Jvm.ClassFile.decode (pm_bytes 8) 28 = .ok (.ireturn, 1) := by decide +kernel
theorem k_9_63 : (pm_own 9, 63, 17, 2, (some 0 : Option Nat)) ∈ pm_call := k0_63
theorem k_9_91 : (pm_own 9, 91, 21, 1, (some 0 : Option Nat)) ∈ pm_call := k0_91
theorem k_9_95 : (pm_own 9, 95, 22, 1, (some 0 : Option Nat)) ∈ pm_call := k0_95
theorem k_9_106 : (pm_own 9, 106, 20, 3, (some 0 : Option Nat)) ∈ pm_call := k0_106
theorem m_9 : pm_mL 9 = 4 := rfl
theorem r_9 : pm_ret 9 = 2 := rfl
theorem i_9_0 : Jvm.ClassFile.decode (pm_bytes 9) 0 = .ok (.aload_n 0, 1) := by decide +kernel
theorem i_9_1 : Jvm.ClassFile.decode (pm_bytes 9) 1 = .ok (.iload_n 1, 1) := by decide +kernel
theorem i_9_2 : Jvm.ClassFile.decode (pm_bytes 9) 2 = .ok (.invokevirtual 63, 3) := by decide +kernel
theorem i_9_5 : Jvm.ClassFile.decode (pm_bytes 9) 5 = .ok (.aload_n 0, 1) := by decide +kernel
theorem i_9_6 : Jvm.ClassFile.decode (pm_bytes 9) 6 = .ok (.iload_n 2, 1) := by decide +kernel
theorem i_9_7 : Jvm.ClassFile.decode (pm_bytes 9) 7 = .ok (.invokevirtual 63, 3) := by decide +kernel
theorem i_9_10 : Jvm.ClassFile.decode (pm_bytes 9) 10 = .ok (.aload_n 0, 1) := by decide +kernel
theorem i_9_11 : Jvm.ClassFile.decode (pm_bytes 9) 11 = .ok (.iload_n 1, 1) := by decide +kernel
theorem i_9_12 : Jvm.ClassFile.decode (pm_bytes 9) 12 = .ok (.iload_n 2, 1) := by decide +kernel
theorem i_9_13 : Jvm.ClassFile.decode (pm_bytes 9) 13 = .ok (.invokevirtual 106, 3) := by decide +kernel
theorem i_9_16 : Jvm.ClassFile.decode (pm_bytes 9) 16 = .ok (.aload_n 0, 1) := by decide +kernel
theorem i_9_17 : Jvm.ClassFile.decode (pm_bytes 9) 17 = .ok (.invokevirtual 91, 3) := by decide +kernel
theorem i_9_20 : Jvm.ClassFile.decode (pm_bytes 9) 20 = .ok (.istore_n 3, 1) := by decide +kernel
theorem i_9_21 : Jvm.ClassFile.decode (pm_bytes 9) 21 = .ok (.iload_n 3, 1) := by decide +kernel
theorem i_9_22 : Jvm.ClassFile.decode (pm_bytes 9) 22 = .ok (.ifCond .eq (7), 3) := by decide +kernel
theorem i_9_25 : Jvm.ClassFile.decode (pm_bytes 9) 25 = .ok (.aload_n 0, 1) := by decide +kernel
theorem i_9_26 : Jvm.ClassFile.decode (pm_bytes 9) 26 = .ok (.invokevirtual 95, 3) := by decide +kernel
theorem i_9_29 : Jvm.ClassFile.decode (pm_bytes 9) 29 = .ok (.iload_n 3, 1) := by decide +kernel
theorem i_9_30 : Jvm.ClassFile.decode (pm_bytes 9) 30 = .ok (.ifCond .ne (7), 3) := by decide +kernel
theorem i_9_33 : Jvm.ClassFile.decode (pm_bytes 9) 33 = .ok (.iconst 1, 1) := by decide +kernel
theorem i_9_34 : Jvm.ClassFile.decode (pm_bytes 9) 34 = .ok (.goto (4), 3) := by decide +kernel
theorem i_9_37 : Jvm.ClassFile.decode (pm_bytes 9) 37 = .ok (.iconst 0, 1) := by decide +kernel
theorem i_9_38 : Jvm.ClassFile.decode (pm_bytes 9) 38 = .ok (.ireturn, 1) := by decide +kernel
theorem f_10_12 : (pm_own 10, 12, 0, 0) ∈ pm_fld := f0_12
theorem f_10_45 : (pm_own 10, 45, 1, 7) ∈ pm_fld := f0_45
theorem f_10_112 : (pm_own 10, 112, 1, 5) ∈ pm_fld := f0_112
theorem f_10_115 : (pm_own 10, 115, 1, 3) ∈ pm_fld := f0_115
theorem t_10_101 : (pm_own 10, 101, 0) ∈ pm_thr := by decide
theorem m_10 : pm_mL 10 = 5 := rfl
theorem r_10 : pm_ret 10 = 2 := rfl
theorem i_10_0 : Jvm.ClassFile.decode (pm_bytes 10) 0 = .ok (.iload_n 1, 1) := by decide +kernel
theorem i_10_1 : Jvm.ClassFile.decode (pm_bytes 10) 1 = .ok (.ifCond .lt (14), 3) := by decide +kernel
theorem i_10_4 : Jvm.ClassFile.decode (pm_bytes 10) 4 = .ok (.iload_n 1, 1) := by decide +kernel
theorem i_10_5 : Jvm.ClassFile.decode (pm_bytes 10) 5 = .ok (.aload_n 0, 1) := by decide +kernel
theorem i_10_6 : Jvm.ClassFile.decode (pm_bytes 10) 6 = .ok (.getfield 12, 3) := by decide +kernel
theorem i_10_9 : Jvm.ClassFile.decode (pm_bytes 10) 9 = .ok (.getfield 45, 3) := by decide +kernel
theorem i_10_12 : Jvm.ClassFile.decode (pm_bytes 10) 12 = .ok (.if_icmp .lt (13), 3) := by decide +kernel
theorem i_10_15 : Jvm.ClassFile.decode (pm_bytes 10) 15 = .ok (.new 101, 3) := by decide +kernel
theorem i_10_18 : Jvm.ClassFile.decode (pm_bytes 10) 18 = .ok (.dup, 1) := by decide +kernel
theorem i_10_25 : Jvm.ClassFile.decode (pm_bytes 10) 25 = .ok (.aload_n 0, 1) := by decide +kernel
theorem i_10_26 : Jvm.ClassFile.decode (pm_bytes 10) 26 = .ok (.getfield 12, 3) := by decide +kernel
theorem i_10_29 : Jvm.ClassFile.decode (pm_bytes 10) 29 = .ok (.getfield 112, 3) := by decide +kernel
theorem i_10_32 : Jvm.ClassFile.decode (pm_bytes 10) 32 = .ok (.iload_n 1, 1) := by decide +kernel
theorem i_10_33 : Jvm.ClassFile.decode (pm_bytes 10) 33 = .ok (.iaload, 1) := by decide +kernel
theorem i_10_34 : Jvm.ClassFile.decode (pm_bytes 10) 34 = .ok (.istore_n 3, 1) := by decide +kernel
theorem i_10_35 : Jvm.ClassFile.decode (pm_bytes 10) 35 = .ok (.aload_n 0, 1) := by decide +kernel
theorem i_10_36 : Jvm.ClassFile.decode (pm_bytes 10) 36 = .ok (.getfield 12, 3) := by decide +kernel
theorem i_10_39 : Jvm.ClassFile.decode (pm_bytes 10) 39 = .ok (.getfield 115, 3) := by decide +kernel
theorem i_10_42 : Jvm.ClassFile.decode (pm_bytes 10) 42 = .ok (.iload_n 3, 1) := by decide +kernel
theorem i_10_43 : Jvm.ClassFile.decode (pm_bytes 10) 43 = .ok (.baload, 1) := by decide +kernel
theorem i_10_44 : Jvm.ClassFile.decode (pm_bytes 10) 44 = .ok (.istore 4, 2) := by decide +kernel
theorem i_10_46 : Jvm.ClassFile.decode (pm_bytes 10) 46 = .ok (.aload_n 0, 1) := by decide +kernel
theorem i_10_47 : Jvm.ClassFile.decode (pm_bytes 10) 47 = .ok (.getfield 12, 3) := by decide +kernel
theorem i_10_50 : Jvm.ClassFile.decode (pm_bytes 10) 50 = .ok (.getfield 115, 3) := by decide +kernel
theorem i_10_53 : Jvm.ClassFile.decode (pm_bytes 10) 53 = .ok (.iload_n 3, 1) := by decide +kernel
theorem i_10_54 : Jvm.ClassFile.decode (pm_bytes 10) 54 = .ok (.iload_n 2, 1) := by decide +kernel
theorem i_10_55 : Jvm.ClassFile.decode (pm_bytes 10) 55 = .ok (.bastore, 1) := by decide +kernel
theorem i_10_56 : Jvm.ClassFile.decode (pm_bytes 10) 56 = .ok (.iload 4, 2) := by decide +kernel
theorem i_10_58 : Jvm.ClassFile.decode (pm_bytes 10) 58 = .ok (.ireturn, 1) := by decide +kernel
theorem f_11_12 : (pm_own 11, 12, 0, 0) ∈ pm_fld := f0_12
theorem k_11_63 : (pm_own 11, 63, 17, 2, (some 0 : Option Nat)) ∈ pm_call := k0_63
theorem k_11_119 : (pm_own 11, 119, 26, 2, (some 1 : Option Nat)) ∈ pm_call := k0_119
theorem m_11 : pm_mL 11 = 2 := rfl
theorem r_11 : pm_ret 11 = 2 := rfl
theorem i_11_0 : Jvm.ClassFile.decode (pm_bytes 11) 0 = .ok (.aload_n 0, 1) := by decide +kernel
theorem i_11_1 : Jvm.ClassFile.decode (pm_bytes 11) 1 = .ok (.iload_n 1, 1) := by decide +kernel
theorem i_11_2 : Jvm.ClassFile.decode (pm_bytes 11) 2 = .ok (.invokevirtual 63, 3) := by decide +kernel
theorem i_11_5 : Jvm.ClassFile.decode (pm_bytes 11) 5 = .ok (.aload_n 0, 1) := by decide +kernel
theorem i_11_6 : Jvm.ClassFile.decode (pm_bytes 11) 6 = .ok (.getfield 12, 3) := by decide +kernel
theorem i_11_9 : Jvm.ClassFile.decode (pm_bytes 11) 9 = .ok (.iload_n 1, 1) := by decide +kernel
theorem i_11_10 : Jvm.ClassFile.decode (pm_bytes 11) 10 = .ok (.invokevirtual 119, 3) := by decide +kernel
theorem i_11_13 : Jvm.ClassFile.decode (pm_bytes 11) 13 = .ok (.ireturn, 1) := by decide +kernel
theorem f_12_123 : (pm_own 12, 123, 0, 6) ∈ pm_fld := f0_123
theorem m_12 : pm_mL 12 = 1 := rfl
theorem r_12 : pm_ret 12 = 1 := rfl
theorem i_12_0 : Jvm.ClassFile.decode (pm_bytes 12) 0 = .ok (.aload_n 0, 1) := by decide +kernel
theorem i_12_1 : Jvm.ClassFile.decode (pm_bytes 12) 1 = .ok (.getfield 123, 3) := by decide +kernel
theorem i_12_4 : Jvm.ClassFile.decode (pm_bytes 12) 4 = .ok (.ireturn, 1) := by decide +kernel
theorem f_13_12 : (pm_own 13, 12, 0, 0) ∈ pm_fld := f0_12
theorem f_13_45 : (pm_own 13, 45, 1, 7) ∈ pm_fld := f0_45
theorem f_13_83 : (pm_own 13, 83, 0, 5) ∈ pm_fld := f0_83
theorem f_13_126 : (pm_own 13, 126, 1, 6) ∈ pm_fld := f0_126
theorem m_13 : pm_mL 13 = 2 := rfl
theorem r_13 : pm_ret 13 = 1 := rfl
theorem i_13_0 : Jvm.ClassFile.decode (pm_bytes 13) 0 = .ok (.iload_n 1, 1) := by decide +kernel
theorem i_13_1 : Jvm.ClassFile.decode (pm_bytes 13) 1 = .ok (.tableswitch (48) (0) (2) #[27, 35, 43], 27) := by decide +kernel
theorem i_13_28 : Jvm.ClassFile.decode (pm_bytes 13) 28 = .ok (.aload_n 0, 1) := by decide +kernel
theorem i_13_29 : Jvm.ClassFile.decode (pm_bytes 13) 29 = .ok (.getfield 12, 3) := by decide +kernel
theorem i_13_32 : Jvm.ClassFile.decode (pm_bytes 13) 32 = .ok (.getfield 126, 3) := by decide +kernel
theorem i_13_35 : Jvm.ClassFile.decode (pm_bytes 13) 35 = .ok (.ireturn, 1) := by decide +kernel
theorem i_13_36 : Jvm.ClassFile.decode (pm_bytes 13) 36 = .ok (.aload_n 0, 1) := by decide +kernel
theorem i_13_37 : Jvm.ClassFile.decode (pm_bytes 13) 37 = .ok (.getfield 12, 3) := by decide +kernel
theorem i_13_40 : Jvm.ClassFile.decode (pm_bytes 13) 40 = .ok (.getfield 45, 3) := by decide +kernel
theorem i_13_43 : Jvm.ClassFile.decode (pm_bytes 13) 43 = .ok (.ireturn, 1) := by decide +kernel
theorem i_13_44 : Jvm.ClassFile.decode (pm_bytes 13) 44 = .ok (.aload_n 0, 1) := by decide +kernel
theorem i_13_45 : Jvm.ClassFile.decode (pm_bytes 13) 45 = .ok (.getfield 83, 3) := by decide +kernel
theorem i_13_48 : Jvm.ClassFile.decode (pm_bytes 13) 48 = .ok (.ireturn, 1) := by decide +kernel
theorem i_13_49 : Jvm.ClassFile.decode (pm_bytes 13) 49 = .ok (.iconst (-1), 1) := by decide +kernel
theorem i_13_50 : Jvm.ClassFile.decode (pm_bytes 13) 50 = .ok (.ireturn, 1) := by decide +kernel
theorem m_14 : pm_mL 14 = 1 := rfl
theorem r_14 : pm_ret 14 = 1 := rfl
theorem i_14_0 : Jvm.ClassFile.decode (pm_bytes 14) 0 = .ok (.iconst 2, 1) := by decide +kernel
theorem i_14_1 : Jvm.ClassFile.decode (pm_bytes 14) 1 = .ok (.iload_n 0, 1) := by decide +kernel
theorem i_14_2 : Jvm.ClassFile.decode (pm_bytes 14) 2 = .ok (.imul, 1) := by decide +kernel
theorem i_14_3 : Jvm.ClassFile.decode (pm_bytes 14) 3 = .ok (.ireturn, 1) := by decide +kernel
theorem m_15 : pm_mL 15 = 1 := rfl
theorem r_15 : pm_ret 15 = 1 := rfl
theorem i_15_0 : Jvm.ClassFile.decode (pm_bytes 15) 0 = .ok (.iload_n 0, 1) := by decide +kernel
theorem i_15_1 : Jvm.ClassFile.decode (pm_bytes 15) 1 = .ok (.iconst 1, 1) := by decide +kernel
theorem i_15_2 : Jvm.ClassFile.decode (pm_bytes 15) 2 = .ok (.ixor, 1) := by decide +kernel
theorem i_15_3 : Jvm.ClassFile.decode (pm_bytes 15) 3 = .ok (.ireturn, 1) := by decide +kernel
theorem m_16 : pm_mL 16 = 1 := rfl
theorem r_16 : pm_ret 16 = 1 := rfl
theorem i_16_0 : Jvm.ClassFile.decode (pm_bytes 16) 0 = .ok (.iload_n 0, 1) := by decide +kernel
theorem i_16_1 : Jvm.ClassFile.decode (pm_bytes 16) 1 = .ok (.iconst 1, 1) := by decide +kernel
theorem i_16_2 : Jvm.ClassFile.decode (pm_bytes 16) 2 = .ok (.ishr, 1) := by decide +kernel
theorem i_16_3 : Jvm.ClassFile.decode (pm_bytes 16) 3 = .ok (.ireturn, 1) := by decide +kernel
theorem f_17_12 : (pm_own 17, 12, 0, 0) ∈ pm_fld := f0_12
theorem f_17_126 : (pm_own 17, 126, 1, 6) ∈ pm_fld := f0_126
theorem t_17_101 : (pm_own 17, 101, 0) ∈ pm_thr := by decide
theorem m_17 : pm_mL 17 = 2 := rfl
theorem r_17 : pm_ret 17 = 0 := rfl
theorem i_17_0 : Jvm.ClassFile.decode (pm_bytes 17) 0 = .ok (.iload_n 1, 1) := by decide +kernel
theorem i_17_1 : Jvm.ClassFile.decode (pm_bytes 17) 1 = .ok (.ifCond .lt (14), 3) := by decide +kernel
theorem i_17_4 : Jvm.ClassFile.decode (pm_bytes 17) 4 = .ok (.iload_n 1, 1) := by decide +kernel
theorem i_17_5 : Jvm.ClassFile.decode (pm_bytes 17) 5 = .ok (.aload_n 0, 1) := by decide +kernel
theorem i_17_6 : Jvm.ClassFile.decode (pm_bytes 17) 6 = .ok (.getfield 12, 3) := by decide +kernel
theorem i_17_9 : Jvm.ClassFile.decode (pm_bytes 17) 9 = .ok (.getfield 126, 3) := by decide +kernel
theorem i_17_12 : Jvm.ClassFile.decode (pm_bytes 17) 12 = .ok (.if_icmp .lt (13), 3) := by decide +kernel
theorem i_17_15 : Jvm.ClassFile.decode (pm_bytes 17) 15 = .ok (.new 101, 3) := by decide +kernel
theorem i_17_18 : Jvm.ClassFile.decode (pm_bytes 17) 18 = .ok (.dup, 1) := by decide +kernel
theorem i_17_25 : Jvm.ClassFile.decode (pm_bytes 17) 25 = .ok (.return_, 1) := by decide +kernel
theorem f_18_12 : (pm_own 18, 12, 0, 0) ∈ pm_fld := f0_12
theorem f_18_126 : (pm_own 18, 126, 1, 6) ∈ pm_fld := f0_126
theorem t_18_49 : (pm_own 18, 49, 1) ∈ pm_thr := by decide
theorem m_18 : pm_mL 18 = 1 := rfl
theorem r_18 : pm_ret 18 = 0 := rfl
theorem i_18_0 : Jvm.ClassFile.decode (pm_bytes 18) 0 = .ok (.aload_n 0, 1) := by decide +kernel
theorem i_18_1 : Jvm.ClassFile.decode (pm_bytes 18) 1 = .ok (.getfield 12, 3) := by decide +kernel
theorem i_18_4 : Jvm.ClassFile.decode (pm_bytes 18) 4 = .ok (.getfield 126, 3) := by decide +kernel
theorem i_18_7 : Jvm.ClassFile.decode (pm_bytes 18) 7 = .ok (.sipush (2000), 3) := by decide +kernel
theorem i_18_10 : Jvm.ClassFile.decode (pm_bytes 18) 10 = .ok (.if_icmp .ne (13), 3) := by decide +kernel
theorem i_18_13 : Jvm.ClassFile.decode (pm_bytes 18) 13 = .ok (.new 49, 3) := by decide +kernel
theorem i_18_16 : Jvm.ClassFile.decode (pm_bytes 18) 16 = .ok (.dup, 1) := by decide +kernel
theorem i_18_23 : Jvm.ClassFile.decode (pm_bytes 18) 23 = .ok (.return_, 1) := by decide +kernel
theorem f_19_12 : (pm_own 19, 12, 0, 0) ∈ pm_fld := f0_12
theorem f_19_19 : (pm_own 19, 19, 0, 1) ∈ pm_fld := f0_19
theorem f_19_41 : (pm_own 19, 41, 0, 4) ∈ pm_fld := f0_41
theorem f_19_83 : (pm_own 19, 83, 0, 5) ∈ pm_fld := f0_83
theorem k_19_67 : (pm_own 19, 67, 14, 1, (none : Option Nat)) ∈ pm_call := k0_67
theorem k_19_133 : (pm_own 19, 133, 32, 1, (some 2 : Option Nat)) ∈ pm_call := k0_133
theorem k_19_136 : (pm_own 19, 136, 28, 1, (some 1 : Option Nat)) ∈ pm_call := k0_136
theorem k_19_139 : (pm_own 19, 139, 33, 4, (some 2 : Option Nat)) ∈ pm_call := k0_139
theorem k_19_143 : (pm_own 19, 143, 29, 2, (some 1 : Option Nat)) ∈ pm_call := k0_143
theorem k_19_146 : (pm_own 19, 146, 30, 2, (some 1 : Option Nat)) ∈ pm_call := k0_146
theorem m_19 : pm_mL 19 = 3 := rfl
theorem r_19 : pm_ret 19 = 0 := rfl
theorem i_19_0 : Jvm.ClassFile.decode (pm_bytes 19) 0 = .ok (.aload_n 0, 1) := by decide +kernel
theorem i_19_1 : Jvm.ClassFile.decode (pm_bytes 19) 1 = .ok (.getfield 19, 3) := by decide +kernel
theorem i_19_4 : Jvm.ClassFile.decode (pm_bytes 19) 4 = .ok (.invokevirtual 133, 3) := by decide +kernel
theorem i_19_7 : Jvm.ClassFile.decode (pm_bytes 19) 7 = .ok (.aload_n 0, 1) := by decide +kernel
theorem i_19_8 : Jvm.ClassFile.decode (pm_bytes 19) 8 = .ok (.getfield 12, 3) := by decide +kernel
theorem i_19_11 : Jvm.ClassFile.decode (pm_bytes 19) 11 = .ok (.invokevirtual 136, 3) := by decide +kernel
theorem i_19_14 : Jvm.ClassFile.decode (pm_bytes 19) 14 = .ok (.iconst 0, 1) := by decide +kernel
theorem i_19_15 : Jvm.ClassFile.decode (pm_bytes 19) 15 = .ok (.istore_n 2, 1) := by decide +kernel
theorem i_19_16 : Jvm.ClassFile.decode (pm_bytes 19) 16 = .ok (.iload_n 2, 1) := by decide +kernel
theorem i_19_17 : Jvm.ClassFile.decode (pm_bytes 19) 17 = .ok (.aload_n 0, 1) := by decide +kernel
theorem i_19_18 : Jvm.ClassFile.decode (pm_bytes 19) 18 = .ok (.getfield 83, 3) := by decide +kernel
theorem i_19_21 : Jvm.ClassFile.decode (pm_bytes 19) 21 = .ok (.if_icmp .ge (45), 3) := by decide +kernel
theorem i_19_24 : Jvm.ClassFile.decode (pm_bytes 19) 24 = .ok (.iload_n 2, 1) := by decide +kernel
theorem i_19_25 : Jvm.ClassFile.decode (pm_bytes 19) 25 = .ok (.iload_n 1, 1) := by decide +kernel
theorem i_19_26 : Jvm.ClassFile.decode (pm_bytes 19) 26 = .ok (.if_icmp .eq (34), 3) := by decide +kernel
theorem i_19_29 : Jvm.ClassFile.decode (pm_bytes 19) 29 = .ok (.aload_n 0, 1) := by decide +kernel
theorem i_19_30 : Jvm.ClassFile.decode (pm_bytes 19) 30 = .ok (.getfield 19, 3) := by decide +kernel
theorem i_19_33 : Jvm.ClassFile.decode (pm_bytes 19) 33 = .ok (.aload_n 0, 1) := by decide +kernel
theorem i_19_34 : Jvm.ClassFile.decode (pm_bytes 19) 34 = .ok (.getfield 41, 3) := by decide +kernel
theorem i_19_37 : Jvm.ClassFile.decode (pm_bytes 19) 37 = .ok (.iload_n 2, 1) := by decide +kernel
theorem i_19_38 : Jvm.ClassFile.decode (pm_bytes 19) 38 = .ok (.iaload, 1) := by decide +kernel
theorem i_19_39 : Jvm.ClassFile.decode (pm_bytes 19) 39 = .ok (.invokestatic 67, 3) := by decide +kernel
theorem i_19_42 : Jvm.ClassFile.decode (pm_bytes 19) 42 = .ok (.iconst 0, 1) := by decide +kernel
theorem i_19_43 : Jvm.ClassFile.decode (pm_bytes 19) 43 = .ok (.iconst 0, 1) := by decide +kernel
theorem i_19_44 : Jvm.ClassFile.decode (pm_bytes 19) 44 = .ok (.invokevirtual 139, 3) := by decide +kernel
theorem i_19_47 : Jvm.ClassFile.decode (pm_bytes 19) 47 = .ok (.aload_n 0, 1) := by decide +kernel
theorem i_19_48 : Jvm.ClassFile.decode (pm_bytes 19) 48 = .ok (.getfield 12, 3) := by decide +kernel
theorem i_19_51 : Jvm.ClassFile.decode (pm_bytes 19) 51 = .ok (.aload_n 0, 1) := by decide +kernel
theorem i_19_52 : Jvm.ClassFile.decode (pm_bytes 19) 52 = .ok (.getfield 41, 3) := by decide +kernel
theorem i_19_55 : Jvm.ClassFile.decode (pm_bytes 19) 55 = .ok (.iload_n 2, 1) := by decide +kernel
theorem i_19_56 : Jvm.ClassFile.decode (pm_bytes 19) 56 = .ok (.iaload, 1) := by decide +kernel
theorem i_19_57 : Jvm.ClassFile.decode (pm_bytes 19) 57 = .ok (.invokevirtual 143, 3) := by decide +kernel
theorem i_19_60 : Jvm.ClassFile.decode (pm_bytes 19) 60 = .ok (.iinc 2 (1), 3) := by decide +kernel
theorem i_19_63 : Jvm.ClassFile.decode (pm_bytes 19) 63 = .ok (.goto (-47), 3) := by decide +kernel
theorem i_19_66 : Jvm.ClassFile.decode (pm_bytes 19) 66 = .ok (.aload_n 0, 1) := by decide +kernel
theorem i_19_67 : Jvm.ClassFile.decode (pm_bytes 19) 67 = .ok (.getfield 12, 3) := by decide +kernel
theorem i_19_70 : Jvm.ClassFile.decode (pm_bytes 19) 70 = .ok (.aload_n 0, 1) := by decide +kernel
theorem i_19_71 : Jvm.ClassFile.decode (pm_bytes 19) 71 = .ok (.getfield 19, 3) := by decide +kernel
theorem i_19_74 : Jvm.ClassFile.decode (pm_bytes 19) 74 = .ok (.invokevirtual 146, 3) := by decide +kernel
theorem i_19_77 : Jvm.ClassFile.decode (pm_bytes 19) 77 = .ok (.return_, 1) := by decide +kernel
end
section
/-! fetch rows of the methods 20 to 39, laid by wip/whole/gen/fetch.py -/
theorem f_20_12 : (pm_own 20, 12, 0, 0) ∈ pm_fld := f0_12
theorem f_20_19 : (pm_own 20, 19, 0, 1) ∈ pm_fld := f0_19
theorem k_20_67 : (pm_own 20, 67, 14, 1, (none : Option Nat)) ∈ pm_call := k0_67
theorem k_20_80 : (pm_own 20, 80, 15, 1, (none : Option Nat)) ∈ pm_call := k0_80
theorem k_20_133 : (pm_own 20, 133, 32, 1, (some 2 : Option Nat)) ∈ pm_call := k0_133
theorem k_20_136 : (pm_own 20, 136, 28, 1, (some 1 : Option Nat)) ∈ pm_call := k0_136
theorem k_20_139 : (pm_own 20, 139, 33, 4, (some 2 : Option Nat)) ∈ pm_call := k0_139
theorem k_20_143 : (pm_own 20, 143, 29, 2, (some 1 : Option Nat)) ∈ pm_call := k0_143
theorem k_20_146 : (pm_own 20, 146, 30, 2, (some 1 : Option Nat)) ∈ pm_call := k0_146
theorem m_20 : pm_mL 20 = 3 := rfl
theorem r_20 : pm_ret 20 = 0 := rfl
theorem i_20_0 : Jvm.ClassFile.decode (pm_bytes 20) 0 = .ok (.aload_n 0, 1) := by decide +kernel
theorem i_20_1 : Jvm.ClassFile.decode (pm_bytes 20) 1 = .ok (.getfield 19, 3) := by decide +kernel
theorem i_20_4 : Jvm.ClassFile.decode (pm_bytes 20) 4 = .ok (.invokevirtual 133, 3) := by decide +kernel
theorem i_20_7 : Jvm.ClassFile.decode (pm_bytes 20) 7 = .ok (.aload_n 0, 1) := by decide +kernel
theorem i_20_8 : Jvm.ClassFile.decode (pm_bytes 20) 8 = .ok (.getfield 12, 3) := by decide +kernel
theorem i_20_11 : Jvm.ClassFile.decode (pm_bytes 20) 11 = .ok (.invokevirtual 136, 3) := by decide +kernel
theorem i_20_14 : Jvm.ClassFile.decode (pm_bytes 20) 14 = .ok (.aload_n 0, 1) := by decide +kernel
theorem i_20_15 : Jvm.ClassFile.decode (pm_bytes 20) 15 = .ok (.getfield 19, 3) := by decide +kernel
theorem i_20_18 : Jvm.ClassFile.decode (pm_bytes 20) 18 = .ok (.iload_n 1, 1) := by decide +kernel
theorem i_20_19 : Jvm.ClassFile.decode (pm_bytes 20) 19 = .ok (.invokestatic 67, 3) := by decide +kernel
theorem i_20_22 : Jvm.ClassFile.decode (pm_bytes 20) 22 = .ok (.iload_n 2, 1) := by decide +kernel
theorem i_20_23 : Jvm.ClassFile.decode (pm_bytes 20) 23 = .ok (.invokestatic 67, 3) := by decide +kernel
theorem i_20_26 : Jvm.ClassFile.decode (pm_bytes 20) 26 = .ok (.iconst 0, 1) := by decide +kernel
theorem i_20_27 : Jvm.ClassFile.decode (pm_bytes 20) 27 = .ok (.invokevirtual 139, 3) := by decide +kernel
theorem i_20_30 : Jvm.ClassFile.decode (pm_bytes 20) 30 = .ok (.aload_n 0, 1) := by decide +kernel
theorem i_20_31 : Jvm.ClassFile.decode (pm_bytes 20) 31 = .ok (.getfield 19, 3) := by decide +kernel
theorem i_20_34 : Jvm.ClassFile.decode (pm_bytes 20) 34 = .ok (.iload_n 1, 1) := by decide +kernel
theorem i_20_35 : Jvm.ClassFile.decode (pm_bytes 20) 35 = .ok (.invokestatic 67, 3) := by decide +kernel
theorem i_20_38 : Jvm.ClassFile.decode (pm_bytes 20) 38 = .ok (.invokestatic 80, 3) := by decide +kernel
theorem i_20_41 : Jvm.ClassFile.decode (pm_bytes 20) 41 = .ok (.iload_n 2, 1) := by decide +kernel
theorem i_20_42 : Jvm.ClassFile.decode (pm_bytes 20) 42 = .ok (.invokestatic 67, 3) := by decide +kernel
theorem i_20_45 : Jvm.ClassFile.decode (pm_bytes 20) 45 = .ok (.invokestatic 80, 3) := by decide +kernel
theorem i_20_48 : Jvm.ClassFile.decode (pm_bytes 20) 48 = .ok (.iconst 0, 1) := by decide +kernel
theorem i_20_49 : Jvm.ClassFile.decode (pm_bytes 20) 49 = .ok (.invokevirtual 139, 3) := by decide +kernel
theorem i_20_52 : Jvm.ClassFile.decode (pm_bytes 20) 52 = .ok (.aload_n 0, 1) := by decide +kernel
theorem i_20_53 : Jvm.ClassFile.decode (pm_bytes 20) 53 = .ok (.getfield 12, 3) := by decide +kernel
theorem i_20_56 : Jvm.ClassFile.decode (pm_bytes 20) 56 = .ok (.iload_n 1, 1) := by decide +kernel
theorem i_20_57 : Jvm.ClassFile.decode (pm_bytes 20) 57 = .ok (.invokevirtual 143, 3) := by decide +kernel
theorem i_20_60 : Jvm.ClassFile.decode (pm_bytes 20) 60 = .ok (.aload_n 0, 1) := by decide +kernel
theorem i_20_61 : Jvm.ClassFile.decode (pm_bytes 20) 61 = .ok (.getfield 12, 3) := by decide +kernel
theorem i_20_64 : Jvm.ClassFile.decode (pm_bytes 20) 64 = .ok (.iload_n 2, 1) := by decide +kernel
theorem i_20_65 : Jvm.ClassFile.decode (pm_bytes 20) 65 = .ok (.invokevirtual 143, 3) := by decide +kernel
theorem i_20_68 : Jvm.ClassFile.decode (pm_bytes 20) 68 = .ok (.aload_n 0, 1) := by decide +kernel
theorem i_20_69 : Jvm.ClassFile.decode (pm_bytes 20) 69 = .ok (.getfield 12, 3) := by decide +kernel
theorem i_20_72 : Jvm.ClassFile.decode (pm_bytes 20) 72 = .ok (.aload_n 0, 1) := by decide +kernel
theorem i_20_73 : Jvm.ClassFile.decode (pm_bytes 20) 73 = .ok (.getfield 19, 3) := by decide +kernel
theorem i_20_76 : Jvm.ClassFile.decode (pm_bytes 20) 76 = .ok (.invokevirtual 146, 3) := by decide +kernel
theorem i_20_79 : Jvm.ClassFile.decode (pm_bytes 20) 79 = .ok (.return_, 1) := by decide +kernel
theorem f_21_28 : (pm_own 21, 28, 0, 2) ∈ pm_fld := f0_28
theorem f_21_37 : (pm_own 21, 37, 0, 3) ∈ pm_fld := f0_37
theorem f_21_123 : (pm_own 21, 123, 0, 6) ∈ pm_fld := f0_123
theorem k_21_149 : (pm_own 21, 149, 37, 1, (some 3 : Option Nat)) ∈ pm_call := k0_149
theorem k_21_152 : (pm_own 21, 152, 43, 1, (some 4 : Option Nat)) ∈ pm_call := k0_152
theorem k_21_155 : (pm_own 21, 155, 38, 1, (some 3 : Option Nat)) ∈ pm_call := k0_155
theorem m_21 : pm_mL 21 = 2 := rfl
theorem r_21 : pm_ret 21 = 2 := rfl
theorem i_21_0 : Jvm.ClassFile.decode (pm_bytes 21) 0 = .ok (.aload_n 0, 1) := by decide +kernel
theorem i_21_1 : Jvm.ClassFile.decode (pm_bytes 21) 1 = .ok (.getfield 28, 3) := by decide +kernel
theorem i_21_4 : Jvm.ClassFile.decode (pm_bytes 21) 4 = .ok (.invokevirtual 149, 3) := by decide +kernel
theorem i_21_7 : Jvm.ClassFile.decode (pm_bytes 21) 7 = .ok (.aload_n 0, 1) := by decide +kernel
theorem i_21_8 : Jvm.ClassFile.decode (pm_bytes 21) 8 = .ok (.getfield 37, 3) := by decide +kernel
theorem i_21_11 : Jvm.ClassFile.decode (pm_bytes 21) 11 = .ok (.invokevirtual 152, 3) := by decide +kernel
theorem i_21_14 : Jvm.ClassFile.decode (pm_bytes 21) 14 = .ok (.istore_n 1, 1) := by decide +kernel
theorem i_21_15 : Jvm.ClassFile.decode (pm_bytes 21) 15 = .ok (.iload_n 1, 1) := by decide +kernel
theorem i_21_16 : Jvm.ClassFile.decode (pm_bytes 21) 16 = .ok (.ifCond .ne (23), 3) := by decide +kernel
theorem i_21_19 : Jvm.ClassFile.decode (pm_bytes 21) 19 = .ok (.aload_n 0, 1) := by decide +kernel
theorem i_21_20 : Jvm.ClassFile.decode (pm_bytes 21) 20 = .ok (.getfield 28, 3) := by decide +kernel
theorem i_21_23 : Jvm.ClassFile.decode (pm_bytes 21) 23 = .ok (.invokevirtual 155, 3) := by decide +kernel
theorem i_21_26 : Jvm.ClassFile.decode (pm_bytes 21) 26 = .ok (.ifCond .ne (13), 3) := by decide +kernel
theorem i_21_29 : Jvm.ClassFile.decode (pm_bytes 21) 29 = .ok (.aload_n 0, 1) := by decide +kernel
theorem i_21_30 : Jvm.ClassFile.decode (pm_bytes 21) 30 = .ok (.dup, 1) := by decide +kernel
theorem i_21_31 : Jvm.ClassFile.decode (pm_bytes 21) 31 = .ok (.getfield 123, 3) := by decide +kernel
theorem i_21_34 : Jvm.ClassFile.decode (pm_bytes 21) 34 = .ok (.iconst 1, 1) := by decide +kernel
theorem i_21_35 : Jvm.ClassFile.decode (pm_bytes 21) 35 = .ok (.iadd, 1) := by decide +kernel
theorem i_21_36 : Jvm.ClassFile.decode (pm_bytes 21) 36 = .ok (.putfield 123, 3) := by decide +kernel
theorem i_21_39 : Jvm.ClassFile.decode (pm_bytes 21) 39 = .ok (.iload_n 1, 1) := by decide +kernel
theorem i_21_40 : Jvm.ClassFile.decode (pm_bytes 21) 40 = .ok (.ireturn, 1) := by decide +kernel
theorem f_22_12 : (pm_own 22, 12, 0, 0) ∈ pm_fld := f0_12
theorem f_22_37 : (pm_own 22, 37, 0, 3) ∈ pm_fld := f0_37
theorem f_22_45 : (pm_own 22, 45, 1, 7) ∈ pm_fld := f0_45
theorem f_22_112 : (pm_own 22, 112, 1, 5) ∈ pm_fld := f0_112
theorem f_22_115 : (pm_own 22, 115, 1, 3) ∈ pm_fld := f0_115
theorem k_22_158 : (pm_own 22, 158, 42, 2, (some 4 : Option Nat)) ∈ pm_call := k0_158
theorem m_22 : pm_mL 22 = 3 := rfl
theorem r_22 : pm_ret 22 = 0 := rfl
theorem i_22_0 : Jvm.ClassFile.decode (pm_bytes 22) 0 = .ok (.iconst 0, 1) := by decide +kernel
theorem i_22_1 : Jvm.ClassFile.decode (pm_bytes 22) 1 = .ok (.istore_n 1, 1) := by decide +kernel
theorem i_22_2 : Jvm.ClassFile.decode (pm_bytes 22) 2 = .ok (.iload_n 1, 1) := by decide +kernel
theorem i_22_3 : Jvm.ClassFile.decode (pm_bytes 22) 3 = .ok (.aload_n 0, 1) := by decide +kernel
theorem i_22_4 : Jvm.ClassFile.decode (pm_bytes 22) 4 = .ok (.getfield 12, 3) := by decide +kernel
theorem i_22_7 : Jvm.ClassFile.decode (pm_bytes 22) 7 = .ok (.getfield 45, 3) := by decide +kernel
theorem i_22_10 : Jvm.ClassFile.decode (pm_bytes 22) 10 = .ok (.if_icmp .ge (36), 3) := by decide +kernel
theorem i_22_13 : Jvm.ClassFile.decode (pm_bytes 22) 13 = .ok (.aload_n 0, 1) := by decide +kernel
theorem i_22_14 : Jvm.ClassFile.decode (pm_bytes 22) 14 = .ok (.getfield 12, 3) := by decide +kernel
theorem i_22_17 : Jvm.ClassFile.decode (pm_bytes 22) 17 = .ok (.getfield 112, 3) := by decide +kernel
theorem i_22_20 : Jvm.ClassFile.decode (pm_bytes 22) 20 = .ok (.iload_n 1, 1) := by decide +kernel
theorem i_22_21 : Jvm.ClassFile.decode (pm_bytes 22) 21 = .ok (.iaload, 1) := by decide +kernel
theorem i_22_22 : Jvm.ClassFile.decode (pm_bytes 22) 22 = .ok (.istore_n 2, 1) := by decide +kernel
theorem i_22_23 : Jvm.ClassFile.decode (pm_bytes 22) 23 = .ok (.aload_n 0, 1) := by decide +kernel
theorem i_22_24 : Jvm.ClassFile.decode (pm_bytes 22) 24 = .ok (.getfield 12, 3) := by decide +kernel
theorem i_22_27 : Jvm.ClassFile.decode (pm_bytes 22) 27 = .ok (.getfield 115, 3) := by decide +kernel
theorem i_22_30 : Jvm.ClassFile.decode (pm_bytes 22) 30 = .ok (.iload_n 2, 1) := by decide +kernel
theorem i_22_31 : Jvm.ClassFile.decode (pm_bytes 22) 31 = .ok (.aload_n 0, 1) := by decide +kernel
theorem i_22_32 : Jvm.ClassFile.decode (pm_bytes 22) 32 = .ok (.getfield 37, 3) := by decide +kernel
theorem i_22_35 : Jvm.ClassFile.decode (pm_bytes 22) 35 = .ok (.iload_n 2, 1) := by decide +kernel
theorem i_22_36 : Jvm.ClassFile.decode (pm_bytes 22) 36 = .ok (.invokevirtual 158, 3) := by decide +kernel
theorem i_22_39 : Jvm.ClassFile.decode (pm_bytes 22) 39 = .ok (.bastore, 1) := by decide +kernel
theorem i_22_40 : Jvm.ClassFile.decode (pm_bytes 22) 40 = .ok (.iinc 1 (1), 3) := by decide +kernel
theorem i_22_43 : Jvm.ClassFile.decode (pm_bytes 22) 43 = .ok (.goto (-41), 3) := by decide +kernel
theorem i_22_46 : Jvm.ClassFile.decode (pm_bytes 22) 46 = .ok (.return_, 1) := by decide +kernel
theorem f_23_41 : (pm_own 23, 41, 0, 4) ∈ pm_fld := f0_41
theorem f_23_83 : (pm_own 23, 83, 0, 5) ∈ pm_fld := f0_83
theorem m_23 : pm_mL 23 = 3 := rfl
theorem r_23 : pm_ret 23 = 0 := rfl
theorem i_23_0 : Jvm.ClassFile.decode (pm_bytes 23) 0 = .ok (.aload_n 0, 1) := by decide +kernel
theorem i_23_1 : Jvm.ClassFile.decode (pm_bytes 23) 1 = .ok (.dup, 1) := by decide +kernel
theorem i_23_2 : Jvm.ClassFile.decode (pm_bytes 23) 2 = .ok (.getfield 83, 3) := by decide +kernel
theorem i_23_5 : Jvm.ClassFile.decode (pm_bytes 23) 5 = .ok (.iconst 1, 1) := by decide +kernel
theorem i_23_6 : Jvm.ClassFile.decode (pm_bytes 23) 6 = .ok (.isub, 1) := by decide +kernel
theorem i_23_7 : Jvm.ClassFile.decode (pm_bytes 23) 7 = .ok (.putfield 83, 3) := by decide +kernel
theorem i_23_10 : Jvm.ClassFile.decode (pm_bytes 23) 10 = .ok (.iload_n 1, 1) := by decide +kernel
theorem i_23_11 : Jvm.ClassFile.decode (pm_bytes 23) 11 = .ok (.istore_n 2, 1) := by decide +kernel
theorem i_23_12 : Jvm.ClassFile.decode (pm_bytes 23) 12 = .ok (.iload_n 2, 1) := by decide +kernel
theorem i_23_13 : Jvm.ClassFile.decode (pm_bytes 23) 13 = .ok (.aload_n 0, 1) := by decide +kernel
theorem i_23_14 : Jvm.ClassFile.decode (pm_bytes 23) 14 = .ok (.getfield 83, 3) := by decide +kernel
theorem i_23_17 : Jvm.ClassFile.decode (pm_bytes 23) 17 = .ok (.if_icmp .ge (23), 3) := by decide +kernel
theorem i_23_20 : Jvm.ClassFile.decode (pm_bytes 23) 20 = .ok (.aload_n 0, 1) := by decide +kernel
theorem i_23_21 : Jvm.ClassFile.decode (pm_bytes 23) 21 = .ok (.getfield 41, 3) := by decide +kernel
theorem i_23_24 : Jvm.ClassFile.decode (pm_bytes 23) 24 = .ok (.iload_n 2, 1) := by decide +kernel
theorem i_23_25 : Jvm.ClassFile.decode (pm_bytes 23) 25 = .ok (.aload_n 0, 1) := by decide +kernel
theorem i_23_26 : Jvm.ClassFile.decode (pm_bytes 23) 26 = .ok (.getfield 41, 3) := by decide +kernel
theorem i_23_29 : Jvm.ClassFile.decode (pm_bytes 23) 29 = .ok (.iload_n 2, 1) := by decide +kernel
theorem i_23_30 : Jvm.ClassFile.decode (pm_bytes 23) 30 = .ok (.iconst 1, 1) := by decide +kernel
theorem i_23_31 : Jvm.ClassFile.decode (pm_bytes 23) 31 = .ok (.iadd, 1) := by decide +kernel
theorem i_23_32 : Jvm.ClassFile.decode (pm_bytes 23) 32 = .ok (.iaload, 1) := by decide +kernel
theorem i_23_33 : Jvm.ClassFile.decode (pm_bytes 23) 33 = .ok (.iastore, 1) := by decide +kernel
theorem i_23_34 : Jvm.ClassFile.decode (pm_bytes 23) 34 = .ok (.iinc 2 (1), 3) := by decide +kernel
theorem i_23_37 : Jvm.ClassFile.decode (pm_bytes 23) 37 = .ok (.goto (-25), 3) := by decide +kernel
theorem i_23_40 : Jvm.ClassFile.decode (pm_bytes 23) 40 = .ok (.return_, 1) := by decide +kernel
theorem f_24_28 : (pm_own 24, 28, 1, 5) ∈ pm_fld := f1_28
theorem f_24_31 : (pm_own 24, 31, 1, 6) ∈ pm_fld := f1_31
theorem f_24_35 : (pm_own 24, 35, 1, 7) ∈ pm_fld := f1_35
theorem k_24_38 : (pm_own 24, 38, 25, 4, (some 1 : Option Nat)) ∈ pm_call := k1_38
theorem m_24 : pm_mL 24 = 1 := rfl
theorem r_24 : pm_ret 24 = 1 := rfl
theorem i_24_0 : Jvm.ClassFile.decode (pm_bytes 24) 0 = .ok (.aload_n 0, 1) := by decide +kernel
theorem i_24_1 : Jvm.ClassFile.decode (pm_bytes 24) 1 = .ok (.getfield 28, 3) := by decide +kernel
theorem i_24_4 : Jvm.ClassFile.decode (pm_bytes 24) 4 = .ok (.aload_n 0, 1) := by decide +kernel
theorem i_24_5 : Jvm.ClassFile.decode (pm_bytes 24) 5 = .ok (.getfield 35, 3) := by decide +kernel
theorem i_24_8 : Jvm.ClassFile.decode (pm_bytes 24) 8 = .ok (.aload_n 0, 1) := by decide +kernel
theorem i_24_9 : Jvm.ClassFile.decode (pm_bytes 24) 9 = .ok (.getfield 31, 3) := by decide +kernel
theorem i_24_12 : Jvm.ClassFile.decode (pm_bytes 24) 12 = .ok (.iastore, 1) := by decide +kernel
theorem i_24_13 : Jvm.ClassFile.decode (pm_bytes 24) 13 = .ok (.aload_n 0, 1) := by decide +kernel
theorem i_24_14 : Jvm.ClassFile.decode (pm_bytes 24) 14 = .ok (.dup, 1) := by decide +kernel
theorem i_24_15 : Jvm.ClassFile.decode (pm_bytes 24) 15 = .ok (.getfield 35, 3) := by decide +kernel
theorem i_24_18 : Jvm.ClassFile.decode (pm_bytes 24) 18 = .ok (.iconst 1, 1) := by decide +kernel
theorem i_24_19 : Jvm.ClassFile.decode (pm_bytes 24) 19 = .ok (.iadd, 1) := by decide +kernel
theorem i_24_20 : Jvm.ClassFile.decode (pm_bytes 24) 20 = .ok (.putfield 35, 3) := by decide +kernel
theorem i_24_23 : Jvm.ClassFile.decode (pm_bytes 24) 23 = .ok (.aload_n 0, 1) := by decide +kernel
theorem i_24_24 : Jvm.ClassFile.decode (pm_bytes 24) 24 = .ok (.iconst (-1), 1) := by decide +kernel
theorem i_24_25 : Jvm.ClassFile.decode (pm_bytes 24) 25 = .ok (.iconst 0, 1) := by decide +kernel
theorem i_24_26 : Jvm.ClassFile.decode (pm_bytes 24) 26 = .ok (.iconst 0, 1) := by decide +kernel
theorem i_24_27 : Jvm.ClassFile.decode (pm_bytes 24) 27 = .ok (.invokevirtual 38, 3) := by decide +kernel
theorem i_24_30 : Jvm.ClassFile.decode (pm_bytes 24) 30 = .ok (.ireturn, 1) := by decide +kernel
theorem f_25_9 : (pm_own 25, 9, 1, 0) ∈ pm_fld := f1_9
theorem f_25_15 : (pm_own 25, 15, 1, 1) ∈ pm_fld := f1_15
theorem f_25_18 : (pm_own 25, 18, 1, 2) ∈ pm_fld := f1_18
theorem f_25_31 : (pm_own 25, 31, 1, 6) ∈ pm_fld := f1_31
theorem m_25 : pm_mL 25 = 5 := rfl
theorem r_25 : pm_ret 25 = 1 := rfl
theorem i_25_0 : Jvm.ClassFile.decode (pm_bytes 25) 0 = .ok (.aload_n 0, 1) := by decide +kernel
theorem i_25_1 : Jvm.ClassFile.decode (pm_bytes 25) 1 = .ok (.getfield 31, 3) := by decide +kernel
theorem i_25_4 : Jvm.ClassFile.decode (pm_bytes 25) 4 = .ok (.istore 4, 2) := by decide +kernel
theorem i_25_6 : Jvm.ClassFile.decode (pm_bytes 25) 6 = .ok (.aload_n 0, 1) := by decide +kernel
theorem i_25_7 : Jvm.ClassFile.decode (pm_bytes 25) 7 = .ok (.getfield 9, 3) := by decide +kernel
theorem i_25_10 : Jvm.ClassFile.decode (pm_bytes 25) 10 = .ok (.iload 4, 2) := by decide +kernel
theorem i_25_12 : Jvm.ClassFile.decode (pm_bytes 25) 12 = .ok (.iload_n 1, 1) := by decide +kernel
theorem i_25_13 : Jvm.ClassFile.decode (pm_bytes 25) 13 = .ok (.iastore, 1) := by decide +kernel
theorem i_25_14 : Jvm.ClassFile.decode (pm_bytes 25) 14 = .ok (.aload_n 0, 1) := by decide +kernel
theorem i_25_15 : Jvm.ClassFile.decode (pm_bytes 25) 15 = .ok (.getfield 15, 3) := by decide +kernel
theorem i_25_18 : Jvm.ClassFile.decode (pm_bytes 25) 18 = .ok (.iload 4, 2) := by decide +kernel
theorem i_25_20 : Jvm.ClassFile.decode (pm_bytes 25) 20 = .ok (.iload_n 2, 1) := by decide +kernel
theorem i_25_21 : Jvm.ClassFile.decode (pm_bytes 25) 21 = .ok (.iastore, 1) := by decide +kernel
theorem i_25_22 : Jvm.ClassFile.decode (pm_bytes 25) 22 = .ok (.aload_n 0, 1) := by decide +kernel
theorem i_25_23 : Jvm.ClassFile.decode (pm_bytes 25) 23 = .ok (.getfield 18, 3) := by decide +kernel
theorem i_25_26 : Jvm.ClassFile.decode (pm_bytes 25) 26 = .ok (.iload 4, 2) := by decide +kernel
theorem i_25_28 : Jvm.ClassFile.decode (pm_bytes 25) 28 = .ok (.iload_n 3, 1) := by decide +kernel
theorem i_25_29 : Jvm.ClassFile.decode (pm_bytes 25) 29 = .ok (.iastore, 1) := by decide +kernel
theorem i_25_30 : Jvm.ClassFile.decode (pm_bytes 25) 30 = .ok (.aload_n 0, 1) := by decide +kernel
theorem i_25_31 : Jvm.ClassFile.decode (pm_bytes 25) 31 = .ok (.dup, 1) := by decide +kernel
theorem i_25_32 : Jvm.ClassFile.decode (pm_bytes 25) 32 = .ok (.getfield 31, 3) := by decide +kernel
theorem i_25_35 : Jvm.ClassFile.decode (pm_bytes 25) 35 = .ok (.iconst 1, 1) := by decide +kernel
theorem i_25_36 : Jvm.ClassFile.decode (pm_bytes 25) 36 = .ok (.iadd, 1) := by decide +kernel
theorem i_25_37 : Jvm.ClassFile.decode (pm_bytes 25) 37 = .ok (.putfield 31, 3) := by decide +kernel
theorem i_25_40 : Jvm.ClassFile.decode (pm_bytes 25) 40 = .ok (.iload 4, 2) := by decide +kernel
theorem i_25_42 : Jvm.ClassFile.decode (pm_bytes 25) 42 = .ok (.ireturn, 1) := by decide +kernel
theorem f_26_9 : (pm_own 26, 9, 1, 0) ∈ pm_fld := f1_9
theorem f_26_15 : (pm_own 26, 15, 1, 1) ∈ pm_fld := f1_15
theorem f_26_18 : (pm_own 26, 18, 1, 2) ∈ pm_fld := f1_18
theorem f_26_21 : (pm_own 26, 21, 1, 3) ∈ pm_fld := f1_21
theorem k_26_42 : (pm_own 26, 42, 27, 2, (some 1 : Option Nat)) ∈ pm_call := k1_42
theorem m_26 : pm_mL 26 = 3 := rfl
theorem r_26 : pm_ret 26 = 2 := rfl
theorem i_26_0 : Jvm.ClassFile.decode (pm_bytes 26) 0 = .ok (.iconst 1, 1) := by decide +kernel
theorem i_26_1 : Jvm.ClassFile.decode (pm_bytes 26) 1 = .ok (.istore_n 2, 1) := by decide +kernel
theorem i_26_2 : Jvm.ClassFile.decode (pm_bytes 26) 2 = .ok (.iload_n 2, 1) := by decide +kernel
theorem i_26_3 : Jvm.ClassFile.decode (pm_bytes 26) 3 = .ok (.iload_n 1, 1) := by decide +kernel
theorem i_26_4 : Jvm.ClassFile.decode (pm_bytes 26) 4 = .ok (.if_icmp .gt (61), 3) := by decide +kernel
theorem i_26_7 : Jvm.ClassFile.decode (pm_bytes 26) 7 = .ok (.aload_n 0, 1) := by decide +kernel
theorem i_26_8 : Jvm.ClassFile.decode (pm_bytes 26) 8 = .ok (.getfield 9, 3) := by decide +kernel
theorem i_26_11 : Jvm.ClassFile.decode (pm_bytes 26) 11 = .ok (.iload_n 2, 1) := by decide +kernel
theorem i_26_12 : Jvm.ClassFile.decode (pm_bytes 26) 12 = .ok (.iaload, 1) := by decide +kernel
theorem i_26_13 : Jvm.ClassFile.decode (pm_bytes 26) 13 = .ok (.iconst (-1), 1) := by decide +kernel
theorem i_26_14 : Jvm.ClassFile.decode (pm_bytes 26) 14 = .ok (.if_icmp .eq (45), 3) := by decide +kernel
theorem i_26_17 : Jvm.ClassFile.decode (pm_bytes 26) 17 = .ok (.aload_n 0, 1) := by decide +kernel
theorem i_26_18 : Jvm.ClassFile.decode (pm_bytes 26) 18 = .ok (.getfield 21, 3) := by decide +kernel
theorem i_26_21 : Jvm.ClassFile.decode (pm_bytes 26) 21 = .ok (.iload_n 2, 1) := by decide +kernel
theorem i_26_22 : Jvm.ClassFile.decode (pm_bytes 26) 22 = .ok (.aload_n 0, 1) := by decide +kernel
theorem i_26_23 : Jvm.ClassFile.decode (pm_bytes 26) 23 = .ok (.aload_n 0, 1) := by decide +kernel
theorem i_26_24 : Jvm.ClassFile.decode (pm_bytes 26) 24 = .ok (.getfield 9, 3) := by decide +kernel
theorem i_26_27 : Jvm.ClassFile.decode (pm_bytes 26) 27 = .ok (.iload_n 2, 1) := by decide +kernel
theorem i_26_28 : Jvm.ClassFile.decode (pm_bytes 26) 28 = .ok (.iaload, 1) := by decide +kernel
theorem i_26_29 : Jvm.ClassFile.decode (pm_bytes 26) 29 = .ok (.invokevirtual 42, 3) := by decide +kernel
theorem i_26_32 : Jvm.ClassFile.decode (pm_bytes 26) 32 = .ok (.ifCond .eq (16), 3) := by decide +kernel
theorem i_26_35 : Jvm.ClassFile.decode (pm_bytes 26) 35 = .ok (.aload_n 0, 1) := by decide +kernel
theorem i_26_36 : Jvm.ClassFile.decode (pm_bytes 26) 36 = .ok (.aload_n 0, 1) := by decide +kernel
theorem i_26_37 : Jvm.ClassFile.decode (pm_bytes 26) 37 = .ok (.getfield 15, 3) := by decide +kernel
theorem i_26_40 : Jvm.ClassFile.decode (pm_bytes 26) 40 = .ok (.iload_n 2, 1) := by decide +kernel
theorem i_26_41 : Jvm.ClassFile.decode (pm_bytes 26) 41 = .ok (.iaload, 1) := by decide +kernel
theorem i_26_42 : Jvm.ClassFile.decode (pm_bytes 26) 42 = .ok (.invokevirtual 42, 3) := by decide +kernel
theorem i_26_45 : Jvm.ClassFile.decode (pm_bytes 26) 45 = .ok (.goto (13), 3) := by decide +kernel
theorem i_26_48 : Jvm.ClassFile.decode (pm_bytes 26) 48 = .ok (.aload_n 0, 1) := by decide +kernel
theorem i_26_49 : Jvm.ClassFile.decode (pm_bytes 26) 49 = .ok (.aload_n 0, 1) := by decide +kernel
theorem i_26_50 : Jvm.ClassFile.decode (pm_bytes 26) 50 = .ok (.getfield 18, 3) := by decide +kernel
theorem i_26_53 : Jvm.ClassFile.decode (pm_bytes 26) 53 = .ok (.iload_n 2, 1) := by decide +kernel
theorem i_26_54 : Jvm.ClassFile.decode (pm_bytes 26) 54 = .ok (.iaload, 1) := by decide +kernel
theorem i_26_55 : Jvm.ClassFile.decode (pm_bytes 26) 55 = .ok (.invokevirtual 42, 3) := by decide +kernel
theorem i_26_58 : Jvm.ClassFile.decode (pm_bytes 26) 58 = .ok (.bastore, 1) := by decide +kernel
theorem i_26_59 : Jvm.ClassFile.decode (pm_bytes 26) 59 = .ok (.iinc 2 (1), 3) := by decide +kernel
theorem i_26_62 : Jvm.ClassFile.decode (pm_bytes 26) 62 = .ok (.goto (-60), 3) := by decide +kernel
theorem i_26_65 : Jvm.ClassFile.decode (pm_bytes 26) 65 = .ok (.aload_n 0, 1) := by decide +kernel
theorem i_26_66 : Jvm.ClassFile.decode (pm_bytes 26) 66 = .ok (.getfield 21, 3) := by decide +kernel
theorem i_26_69 : Jvm.ClassFile.decode (pm_bytes 26) 69 = .ok (.iload_n 1, 1) := by decide +kernel
theorem i_26_70 : Jvm.ClassFile.decode (pm_bytes 26) 70 = .ok (.baload, 1) := by decide +kernel
theorem i_26_71 : Jvm.ClassFile.decode (pm_bytes 26) 71 = .ok (.ireturn, 1) := by decide +kernel
theorem f_27_21 : (pm_own 27, 21, 1, 3) ∈ pm_fld := f1_21
theorem k_27_46 : (pm_own 27, 46, 16, 1, (none : Option Nat)) ∈ pm_call := k1_46
theorem m_27 : pm_mL 27 = 2 := rfl
theorem r_27 : pm_ret 27 = 2 := rfl
theorem i_27_0 : Jvm.ClassFile.decode (pm_bytes 27) 0 = .ok (.aload_n 0, 1) := by decide +kernel
theorem i_27_1 : Jvm.ClassFile.decode (pm_bytes 27) 1 = .ok (.getfield 21, 3) := by decide +kernel
theorem i_27_4 : Jvm.ClassFile.decode (pm_bytes 27) 4 = .ok (.iload_n 1, 1) := by decide +kernel
theorem i_27_5 : Jvm.ClassFile.decode (pm_bytes 27) 5 = .ok (.invokestatic 46, 3) := by decide +kernel
theorem i_27_8 : Jvm.ClassFile.decode (pm_bytes 27) 8 = .ok (.baload, 1) := by decide +kernel
theorem i_27_9 : Jvm.ClassFile.decode (pm_bytes 27) 9 = .ok (.iload_n 1, 1) := by decide +kernel
theorem i_27_10 : Jvm.ClassFile.decode (pm_bytes 27) 10 = .ok (.iconst 1, 1) := by decide +kernel
theorem i_27_11 : Jvm.ClassFile.decode (pm_bytes 27) 11 = .ok (.iand, 1) := by decide +kernel
theorem i_27_12 : Jvm.ClassFile.decode (pm_bytes 27) 12 = .ok (.ifCond .ne (7), 3) := by decide +kernel
theorem i_27_15 : Jvm.ClassFile.decode (pm_bytes 27) 15 = .ok (.iconst 1, 1) := by decide +kernel
theorem i_27_16 : Jvm.ClassFile.decode (pm_bytes 27) 16 = .ok (.goto (4), 3) := by decide +kernel
theorem i_27_19 : Jvm.ClassFile.decode (pm_bytes 27) 19 = .ok (.iconst 0, 1) := by decide +kernel
theorem i_27_20 : Jvm.ClassFile.decode (pm_bytes 27) 20 = .ok (.if_icmp .ne (7), 3) := by decide +kernel
theorem i_27_23 : Jvm.ClassFile.decode (pm_bytes 27) 23 = .ok (.iconst 1, 1) := by decide +kernel
theorem i_27_24 : Jvm.ClassFile.decode (pm_bytes 27) 24 = .ok (.goto (4), 3) := by decide +kernel
theorem i_27_27 : Jvm.ClassFile.decode (pm_bytes 27) 27 = .ok (.iconst 0, 1) := by decide +kernel
theorem i_27_28 : Jvm.ClassFile.decode (pm_bytes 27) 28 = .ok (.ireturn, 1) := by decide +kernel
theorem f_28_25 : (pm_own 28, 25, 1, 4) ∈ pm_fld := f1_25
theorem f_28_31 : (pm_own 28, 31, 1, 6) ∈ pm_fld := f1_31
theorem m_28 : pm_mL 28 = 2 := rfl
theorem r_28 : pm_ret 28 = 0 := rfl
theorem i_28_0 : Jvm.ClassFile.decode (pm_bytes 28) 0 = .ok (.iconst 0, 1) := by decide +kernel
theorem i_28_1 : Jvm.ClassFile.decode (pm_bytes 28) 1 = .ok (.istore_n 1, 1) := by decide +kernel
theorem i_28_2 : Jvm.ClassFile.decode (pm_bytes 28) 2 = .ok (.iload_n 1, 1) := by decide +kernel
theorem i_28_3 : Jvm.ClassFile.decode (pm_bytes 28) 3 = .ok (.aload_n 0, 1) := by decide +kernel
theorem i_28_4 : Jvm.ClassFile.decode (pm_bytes 28) 4 = .ok (.getfield 31, 3) := by decide +kernel
theorem i_28_7 : Jvm.ClassFile.decode (pm_bytes 28) 7 = .ok (.if_icmp .ge (16), 3) := by decide +kernel
theorem i_28_10 : Jvm.ClassFile.decode (pm_bytes 28) 10 = .ok (.aload_n 0, 1) := by decide +kernel
theorem i_28_11 : Jvm.ClassFile.decode (pm_bytes 28) 11 = .ok (.getfield 25, 3) := by decide +kernel
theorem i_28_14 : Jvm.ClassFile.decode (pm_bytes 28) 14 = .ok (.iload_n 1, 1) := by decide +kernel
theorem i_28_15 : Jvm.ClassFile.decode (pm_bytes 28) 15 = .ok (.iconst 0, 1) := by decide +kernel
theorem i_28_16 : Jvm.ClassFile.decode (pm_bytes 28) 16 = .ok (.bastore, 1) := by decide +kernel
theorem i_28_17 : Jvm.ClassFile.decode (pm_bytes 28) 17 = .ok (.iinc 1 (1), 3) := by decide +kernel
theorem i_28_20 : Jvm.ClassFile.decode (pm_bytes 28) 20 = .ok (.goto (-18), 3) := by decide +kernel
theorem i_28_23 : Jvm.ClassFile.decode (pm_bytes 28) 23 = .ok (.return_, 1) := by decide +kernel
theorem f_29_25 : (pm_own 29, 25, 1, 4) ∈ pm_fld := f1_25
theorem m_29 : pm_mL 29 = 2 := rfl
theorem r_29 : pm_ret 29 = 0 := rfl
theorem i_29_0 : Jvm.ClassFile.decode (pm_bytes 29) 0 = .ok (.aload_n 0, 1) := by decide +kernel
theorem i_29_1 : Jvm.ClassFile.decode (pm_bytes 29) 1 = .ok (.getfield 25, 3) := by decide +kernel
theorem i_29_4 : Jvm.ClassFile.decode (pm_bytes 29) 4 = .ok (.iload_n 1, 1) := by decide +kernel
theorem i_29_5 : Jvm.ClassFile.decode (pm_bytes 29) 5 = .ok (.iconst 1, 1) := by decide +kernel
theorem i_29_6 : Jvm.ClassFile.decode (pm_bytes 29) 6 = .ok (.bastore, 1) := by decide +kernel
theorem i_29_7 : Jvm.ClassFile.decode (pm_bytes 29) 7 = .ok (.return_, 1) := by decide +kernel
theorem f_30_9 : (pm_own 30, 9, 1, 0) ∈ pm_fld := f1_9
theorem f_30_15 : (pm_own 30, 15, 1, 1) ∈ pm_fld := f1_15
theorem f_30_18 : (pm_own 30, 18, 1, 2) ∈ pm_fld := f1_18
theorem f_30_25 : (pm_own 30, 25, 1, 4) ∈ pm_fld := f1_25
theorem f_30_31 : (pm_own 30, 31, 1, 6) ∈ pm_fld := f1_31
theorem k_30_46 : (pm_own 30, 46, 16, 1, (none : Option Nat)) ∈ pm_call := k1_46
theorem k_30_50 : (pm_own 30, 50, 29, 2, (some 1 : Option Nat)) ∈ pm_call := k1_50
theorem k_30_54 : (pm_own 30, 54, 31, 3, (some 1 : Option Nat)) ∈ pm_call := k1_54
theorem m_30 : pm_mL 30 = 3 := rfl
theorem r_30 : pm_ret 30 = 0 := rfl
theorem i_30_0 : Jvm.ClassFile.decode (pm_bytes 30) 0 = .ok (.aload_n 0, 1) := by decide +kernel
theorem i_30_1 : Jvm.ClassFile.decode (pm_bytes 30) 1 = .ok (.getfield 31, 3) := by decide +kernel
theorem i_30_4 : Jvm.ClassFile.decode (pm_bytes 30) 4 = .ok (.iconst 1, 1) := by decide +kernel
theorem i_30_5 : Jvm.ClassFile.decode (pm_bytes 30) 5 = .ok (.isub, 1) := by decide +kernel
theorem i_30_6 : Jvm.ClassFile.decode (pm_bytes 30) 6 = .ok (.istore_n 2, 1) := by decide +kernel
theorem i_30_7 : Jvm.ClassFile.decode (pm_bytes 30) 7 = .ok (.iload_n 2, 1) := by decide +kernel
theorem i_30_8 : Jvm.ClassFile.decode (pm_bytes 30) 8 = .ok (.ifCond .le (73), 3) := by decide +kernel
theorem i_30_11 : Jvm.ClassFile.decode (pm_bytes 30) 11 = .ok (.aload_n 0, 1) := by decide +kernel
theorem i_30_12 : Jvm.ClassFile.decode (pm_bytes 30) 12 = .ok (.getfield 25, 3) := by decide +kernel
theorem i_30_15 : Jvm.ClassFile.decode (pm_bytes 30) 15 = .ok (.iload_n 2, 1) := by decide +kernel
theorem i_30_16 : Jvm.ClassFile.decode (pm_bytes 30) 16 = .ok (.baload, 1) := by decide +kernel
theorem i_30_17 : Jvm.ClassFile.decode (pm_bytes 30) 17 = .ok (.ifCond .eq (58), 3) := by decide +kernel
theorem i_30_20 : Jvm.ClassFile.decode (pm_bytes 30) 20 = .ok (.aload_n 0, 1) := by decide +kernel
theorem i_30_21 : Jvm.ClassFile.decode (pm_bytes 30) 21 = .ok (.getfield 9, 3) := by decide +kernel
theorem i_30_24 : Jvm.ClassFile.decode (pm_bytes 30) 24 = .ok (.iload_n 2, 1) := by decide +kernel
theorem i_30_25 : Jvm.ClassFile.decode (pm_bytes 30) 25 = .ok (.iaload, 1) := by decide +kernel
theorem i_30_26 : Jvm.ClassFile.decode (pm_bytes 30) 26 = .ok (.iconst (-1), 1) := by decide +kernel
theorem i_30_27 : Jvm.ClassFile.decode (pm_bytes 30) 27 = .ok (.if_icmp .eq (48), 3) := by decide +kernel
theorem i_30_30 : Jvm.ClassFile.decode (pm_bytes 30) 30 = .ok (.aload_n 0, 1) := by decide +kernel
theorem i_30_31 : Jvm.ClassFile.decode (pm_bytes 30) 31 = .ok (.aload_n 0, 1) := by decide +kernel
theorem i_30_32 : Jvm.ClassFile.decode (pm_bytes 30) 32 = .ok (.getfield 9, 3) := by decide +kernel
theorem i_30_35 : Jvm.ClassFile.decode (pm_bytes 30) 35 = .ok (.iload_n 2, 1) := by decide +kernel
theorem i_30_36 : Jvm.ClassFile.decode (pm_bytes 30) 36 = .ok (.iaload, 1) := by decide +kernel
theorem i_30_37 : Jvm.ClassFile.decode (pm_bytes 30) 37 = .ok (.invokestatic 46, 3) := by decide +kernel
theorem i_30_40 : Jvm.ClassFile.decode (pm_bytes 30) 40 = .ok (.invokevirtual 50, 3) := by decide +kernel
theorem i_30_43 : Jvm.ClassFile.decode (pm_bytes 30) 43 = .ok (.aload_n 0, 1) := by decide +kernel
theorem i_30_44 : Jvm.ClassFile.decode (pm_bytes 30) 44 = .ok (.aload_n 0, 1) := by decide +kernel
theorem i_30_45 : Jvm.ClassFile.decode (pm_bytes 30) 45 = .ok (.getfield 15, 3) := by decide +kernel
theorem i_30_48 : Jvm.ClassFile.decode (pm_bytes 30) 48 = .ok (.iload_n 2, 1) := by decide +kernel
theorem i_30_49 : Jvm.ClassFile.decode (pm_bytes 30) 49 = .ok (.iaload, 1) := by decide +kernel
theorem i_30_50 : Jvm.ClassFile.decode (pm_bytes 30) 50 = .ok (.invokestatic 46, 3) := by decide +kernel
theorem i_30_53 : Jvm.ClassFile.decode (pm_bytes 30) 53 = .ok (.invokevirtual 50, 3) := by decide +kernel
theorem i_30_56 : Jvm.ClassFile.decode (pm_bytes 30) 56 = .ok (.aload_n 0, 1) := by decide +kernel
theorem i_30_57 : Jvm.ClassFile.decode (pm_bytes 30) 57 = .ok (.aload_n 0, 1) := by decide +kernel
theorem i_30_58 : Jvm.ClassFile.decode (pm_bytes 30) 58 = .ok (.getfield 18, 3) := by decide +kernel
theorem i_30_61 : Jvm.ClassFile.decode (pm_bytes 30) 61 = .ok (.iload_n 2, 1) := by decide +kernel
theorem i_30_62 : Jvm.ClassFile.decode (pm_bytes 30) 62 = .ok (.iaload, 1) := by decide +kernel
theorem i_30_63 : Jvm.ClassFile.decode (pm_bytes 30) 63 = .ok (.invokestatic 46, 3) := by decide +kernel
theorem i_30_66 : Jvm.ClassFile.decode (pm_bytes 30) 66 = .ok (.invokevirtual 50, 3) := by decide +kernel
theorem i_30_69 : Jvm.ClassFile.decode (pm_bytes 30) 69 = .ok (.aload_n 0, 1) := by decide +kernel
theorem i_30_70 : Jvm.ClassFile.decode (pm_bytes 30) 70 = .ok (.iload_n 2, 1) := by decide +kernel
theorem i_30_71 : Jvm.ClassFile.decode (pm_bytes 30) 71 = .ok (.aload_n 1, 1) := by decide +kernel
theorem i_30_72 : Jvm.ClassFile.decode (pm_bytes 30) 72 = .ok (.invokevirtual 54, 3) := by decide +kernel
theorem i_30_75 : Jvm.ClassFile.decode (pm_bytes 30) 75 = .ok (.iinc 2 (-1), 3) := by decide +kernel
theorem i_30_78 : Jvm.ClassFile.decode (pm_bytes 30) 78 = .ok (.goto (-71), 3) := by decide +kernel
theorem i_30_81 : Jvm.ClassFile.decode (pm_bytes 30) 81 = .ok (.return_, 1) := by decide +kernel
theorem f_31_9 : (pm_own 31, 9, 1, 0) ∈ pm_fld := f1_9
theorem f_31_15 : (pm_own 31, 15, 1, 1) ∈ pm_fld := f1_15
theorem f_31_18 : (pm_own 31, 18, 1, 2) ∈ pm_fld := f1_18
theorem k_31_58 : (pm_own 31, 58, 14, 1, (none : Option Nat)) ∈ pm_call := k1_58
theorem k_31_61 : (pm_own 31, 61, 15, 1, (none : Option Nat)) ∈ pm_call := k1_61
theorem k_31_64 : (pm_own 31, 64, 33, 4, (some 2 : Option Nat)) ∈ pm_call := k1_64
theorem m_31 : pm_mL 31 = 7 := rfl
theorem r_31 : pm_ret 31 = 0 := rfl
theorem i_31_0 : Jvm.ClassFile.decode (pm_bytes 31) 0 = .ok (.iload_n 1, 1) := by decide +kernel
theorem i_31_1 : Jvm.ClassFile.decode (pm_bytes 31) 1 = .ok (.invokestatic 58, 3) := by decide +kernel
theorem i_31_4 : Jvm.ClassFile.decode (pm_bytes 31) 4 = .ok (.istore_n 3, 1) := by decide +kernel
theorem i_31_5 : Jvm.ClassFile.decode (pm_bytes 31) 5 = .ok (.aload_n 0, 1) := by decide +kernel
theorem i_31_6 : Jvm.ClassFile.decode (pm_bytes 31) 6 = .ok (.getfield 9, 3) := by decide +kernel
theorem i_31_9 : Jvm.ClassFile.decode (pm_bytes 31) 9 = .ok (.iload_n 1, 1) := by decide +kernel
theorem i_31_10 : Jvm.ClassFile.decode (pm_bytes 31) 10 = .ok (.iaload, 1) := by decide +kernel
theorem i_31_11 : Jvm.ClassFile.decode (pm_bytes 31) 11 = .ok (.istore 4, 2) := by decide +kernel
theorem i_31_13 : Jvm.ClassFile.decode (pm_bytes 31) 13 = .ok (.aload_n 0, 1) := by decide +kernel
theorem i_31_14 : Jvm.ClassFile.decode (pm_bytes 31) 14 = .ok (.getfield 15, 3) := by decide +kernel
theorem i_31_17 : Jvm.ClassFile.decode (pm_bytes 31) 17 = .ok (.iload_n 1, 1) := by decide +kernel
theorem i_31_18 : Jvm.ClassFile.decode (pm_bytes 31) 18 = .ok (.iaload, 1) := by decide +kernel
theorem i_31_19 : Jvm.ClassFile.decode (pm_bytes 31) 19 = .ok (.istore 5, 2) := by decide +kernel
theorem i_31_21 : Jvm.ClassFile.decode (pm_bytes 31) 21 = .ok (.aload_n 0, 1) := by decide +kernel
theorem i_31_22 : Jvm.ClassFile.decode (pm_bytes 31) 22 = .ok (.getfield 18, 3) := by decide +kernel
theorem i_31_25 : Jvm.ClassFile.decode (pm_bytes 31) 25 = .ok (.iload_n 1, 1) := by decide +kernel
theorem i_31_26 : Jvm.ClassFile.decode (pm_bytes 31) 26 = .ok (.iaload, 1) := by decide +kernel
theorem i_31_27 : Jvm.ClassFile.decode (pm_bytes 31) 27 = .ok (.istore 6, 2) := by decide +kernel
theorem i_31_29 : Jvm.ClassFile.decode (pm_bytes 31) 29 = .ok (.aload_n 2, 1) := by decide +kernel
theorem i_31_30 : Jvm.ClassFile.decode (pm_bytes 31) 30 = .ok (.iload 4, 2) := by decide +kernel
theorem i_31_32 : Jvm.ClassFile.decode (pm_bytes 31) 32 = .ok (.invokestatic 61, 3) := by decide +kernel
theorem i_31_35 : Jvm.ClassFile.decode (pm_bytes 31) 35 = .ok (.iload 5, 2) := by decide +kernel
theorem i_31_37 : Jvm.ClassFile.decode (pm_bytes 31) 37 = .ok (.invokestatic 61, 3) := by decide +kernel
theorem i_31_40 : Jvm.ClassFile.decode (pm_bytes 31) 40 = .ok (.iload_n 3, 1) := by decide +kernel
theorem i_31_41 : Jvm.ClassFile.decode (pm_bytes 31) 41 = .ok (.invokevirtual 64, 3) := by decide +kernel
theorem i_31_44 : Jvm.ClassFile.decode (pm_bytes 31) 44 = .ok (.aload_n 2, 1) := by decide +kernel
theorem i_31_45 : Jvm.ClassFile.decode (pm_bytes 31) 45 = .ok (.iload 4, 2) := by decide +kernel
theorem i_31_47 : Jvm.ClassFile.decode (pm_bytes 31) 47 = .ok (.invokestatic 61, 3) := by decide +kernel
theorem i_31_50 : Jvm.ClassFile.decode (pm_bytes 31) 50 = .ok (.iload 5, 2) := by decide +kernel
theorem i_31_52 : Jvm.ClassFile.decode (pm_bytes 31) 52 = .ok (.iload_n 3, 1) := by decide +kernel
theorem i_31_53 : Jvm.ClassFile.decode (pm_bytes 31) 53 = .ok (.invokestatic 61, 3) := by decide +kernel
theorem i_31_56 : Jvm.ClassFile.decode (pm_bytes 31) 56 = .ok (.invokevirtual 64, 3) := by decide +kernel
theorem i_31_59 : Jvm.ClassFile.decode (pm_bytes 31) 59 = .ok (.aload_n 2, 1) := by decide +kernel
theorem i_31_60 : Jvm.ClassFile.decode (pm_bytes 31) 60 = .ok (.iload 4, 2) := by decide +kernel
theorem i_31_62 : Jvm.ClassFile.decode (pm_bytes 31) 62 = .ok (.iload 6, 2) := by decide +kernel
theorem i_31_64 : Jvm.ClassFile.decode (pm_bytes 31) 64 = .ok (.invokestatic 61, 3) := by decide +kernel
theorem i_31_67 : Jvm.ClassFile.decode (pm_bytes 31) 67 = .ok (.iload_n 3, 1) := by decide +kernel
theorem i_31_68 : Jvm.ClassFile.decode (pm_bytes 31) 68 = .ok (.invokevirtual 64, 3) := by decide +kernel
theorem i_31_71 : Jvm.ClassFile.decode (pm_bytes 31) 71 = .ok (.aload_n 2, 1) := by decide +kernel
theorem i_31_72 : Jvm.ClassFile.decode (pm_bytes 31) 72 = .ok (.iload 4, 2) := by decide +kernel
theorem i_31_74 : Jvm.ClassFile.decode (pm_bytes 31) 74 = .ok (.iload 6, 2) := by decide +kernel
theorem i_31_76 : Jvm.ClassFile.decode (pm_bytes 31) 76 = .ok (.iload_n 3, 1) := by decide +kernel
theorem i_31_77 : Jvm.ClassFile.decode (pm_bytes 31) 77 = .ok (.invokestatic 61, 3) := by decide +kernel
theorem i_31_80 : Jvm.ClassFile.decode (pm_bytes 31) 80 = .ok (.invokevirtual 64, 3) := by decide +kernel
theorem i_31_83 : Jvm.ClassFile.decode (pm_bytes 31) 83 = .ok (.aload_n 2, 1) := by decide +kernel
theorem i_31_84 : Jvm.ClassFile.decode (pm_bytes 31) 84 = .ok (.iload 5, 2) := by decide +kernel
theorem i_31_86 : Jvm.ClassFile.decode (pm_bytes 31) 86 = .ok (.invokestatic 61, 3) := by decide +kernel
theorem i_31_89 : Jvm.ClassFile.decode (pm_bytes 31) 89 = .ok (.iload 6, 2) := by decide +kernel
theorem i_31_91 : Jvm.ClassFile.decode (pm_bytes 31) 91 = .ok (.invokestatic 61, 3) := by decide +kernel
theorem i_31_94 : Jvm.ClassFile.decode (pm_bytes 31) 94 = .ok (.iload_n 3, 1) := by decide +kernel
theorem i_31_95 : Jvm.ClassFile.decode (pm_bytes 31) 95 = .ok (.invokevirtual 64, 3) := by decide +kernel
theorem i_31_98 : Jvm.ClassFile.decode (pm_bytes 31) 98 = .ok (.aload_n 2, 1) := by decide +kernel
theorem i_31_99 : Jvm.ClassFile.decode (pm_bytes 31) 99 = .ok (.iload 5, 2) := by decide +kernel
theorem i_31_101 : Jvm.ClassFile.decode (pm_bytes 31) 101 = .ok (.iload 6, 2) := by decide +kernel
theorem i_31_103 : Jvm.ClassFile.decode (pm_bytes 31) 103 = .ok (.iload_n 3, 1) := by decide +kernel
theorem i_31_104 : Jvm.ClassFile.decode (pm_bytes 31) 104 = .ok (.invokestatic 61, 3) := by decide +kernel
theorem i_31_107 : Jvm.ClassFile.decode (pm_bytes 31) 107 = .ok (.invokevirtual 64, 3) := by decide +kernel
theorem i_31_110 : Jvm.ClassFile.decode (pm_bytes 31) 110 = .ok (.return_, 1) := by decide +kernel
theorem f_32_19 : (pm_own 32, 19, 2, 2) ∈ pm_fld := f2_19
theorem f_32_23 : (pm_own 32, 23, 2, 3) ∈ pm_fld := f2_23
theorem m_32 : pm_mL 32 = 1 := rfl
theorem r_32 : pm_ret 32 = 0 := rfl
theorem i_32_0 : Jvm.ClassFile.decode (pm_bytes 32) 0 = .ok (.aload_n 0, 1) := by decide +kernel
theorem i_32_1 : Jvm.ClassFile.decode (pm_bytes 32) 1 = .ok (.iconst 0, 1) := by decide +kernel
theorem i_32_2 : Jvm.ClassFile.decode (pm_bytes 32) 2 = .ok (.putfield 19, 3) := by decide +kernel
theorem i_32_5 : Jvm.ClassFile.decode (pm_bytes 32) 5 = .ok (.aload_n 0, 1) := by decide +kernel
theorem i_32_6 : Jvm.ClassFile.decode (pm_bytes 32) 6 = .ok (.iconst 0, 1) := by decide +kernel
theorem i_32_7 : Jvm.ClassFile.decode (pm_bytes 32) 7 = .ok (.putfield 23, 3) := by decide +kernel
theorem i_32_10 : Jvm.ClassFile.decode (pm_bytes 32) 10 = .ok (.return_, 1) := by decide +kernel
theorem k_33_26 : (pm_own 33, 26, 15, 1, (none : Option Nat)) ∈ pm_call := k2_26
theorem k_33_30 : (pm_own 33, 30, 34, 2, (some 2 : Option Nat)) ∈ pm_call := k2_30
theorem k_33_34 : (pm_own 33, 34, 35, 1, (some 2 : Option Nat)) ∈ pm_call := k2_34
theorem m_33 : pm_mL 33 = 4 := rfl
theorem r_33 : pm_ret 33 = 0 := rfl
theorem i_33_0 : Jvm.ClassFile.decode (pm_bytes 33) 0 = .ok (.iload_n 1, 1) := by decide +kernel
theorem i_33_1 : Jvm.ClassFile.decode (pm_bytes 33) 1 = .ok (.iconst 1, 1) := by decide +kernel
theorem i_33_2 : Jvm.ClassFile.decode (pm_bytes 33) 2 = .ok (.if_icmp .eq (13), 3) := by decide +kernel
theorem i_33_5 : Jvm.ClassFile.decode (pm_bytes 33) 5 = .ok (.iload_n 2, 1) := by decide +kernel
theorem i_33_6 : Jvm.ClassFile.decode (pm_bytes 33) 6 = .ok (.iconst 1, 1) := by decide +kernel
theorem i_33_7 : Jvm.ClassFile.decode (pm_bytes 33) 7 = .ok (.if_icmp .eq (8), 3) := by decide +kernel
theorem i_33_10 : Jvm.ClassFile.decode (pm_bytes 33) 10 = .ok (.iload_n 3, 1) := by decide +kernel
theorem i_33_11 : Jvm.ClassFile.decode (pm_bytes 33) 11 = .ok (.iconst 1, 1) := by decide +kernel
theorem i_33_12 : Jvm.ClassFile.decode (pm_bytes 33) 12 = .ok (.if_icmp .ne (4), 3) := by decide +kernel
theorem i_33_15 : Jvm.ClassFile.decode (pm_bytes 33) 15 = .ok (.return_, 1) := by decide +kernel
theorem i_33_16 : Jvm.ClassFile.decode (pm_bytes 33) 16 = .ok (.iload_n 1, 1) := by decide +kernel
theorem i_33_17 : Jvm.ClassFile.decode (pm_bytes 33) 17 = .ok (.iload_n 2, 1) := by decide +kernel
theorem i_33_18 : Jvm.ClassFile.decode (pm_bytes 33) 18 = .ok (.invokestatic 26, 3) := by decide +kernel
theorem i_33_21 : Jvm.ClassFile.decode (pm_bytes 33) 21 = .ok (.if_icmp .eq (19), 3) := by decide +kernel
theorem i_33_24 : Jvm.ClassFile.decode (pm_bytes 33) 24 = .ok (.iload_n 1, 1) := by decide +kernel
theorem i_33_25 : Jvm.ClassFile.decode (pm_bytes 33) 25 = .ok (.iload_n 3, 1) := by decide +kernel
theorem i_33_26 : Jvm.ClassFile.decode (pm_bytes 33) 26 = .ok (.invokestatic 26, 3) := by decide +kernel
theorem i_33_29 : Jvm.ClassFile.decode (pm_bytes 33) 29 = .ok (.if_icmp .eq (11), 3) := by decide +kernel
theorem i_33_32 : Jvm.ClassFile.decode (pm_bytes 33) 32 = .ok (.iload_n 2, 1) := by decide +kernel
theorem i_33_33 : Jvm.ClassFile.decode (pm_bytes 33) 33 = .ok (.iload_n 3, 1) := by decide +kernel
theorem i_33_34 : Jvm.ClassFile.decode (pm_bytes 33) 34 = .ok (.invokestatic 26, 3) := by decide +kernel
theorem i_33_37 : Jvm.ClassFile.decode (pm_bytes 33) 37 = .ok (.if_icmp .ne (4), 3) := by decide +kernel
theorem i_33_40 : Jvm.ClassFile.decode (pm_bytes 33) 40 = .ok (.return_, 1) := by decide +kernel
theorem i_33_41 : Jvm.ClassFile.decode (pm_bytes 33) 41 = .ok (.iload_n 1, 1) := by decide +kernel
theorem i_33_42 : Jvm.ClassFile.decode (pm_bytes 33) 42 = .ok (.ifCond .eq (8), 3) := by decide +kernel
theorem i_33_45 : Jvm.ClassFile.decode (pm_bytes 33) 45 = .ok (.aload_n 0, 1) := by decide +kernel
theorem i_33_46 : Jvm.ClassFile.decode (pm_bytes 33) 46 = .ok (.iload_n 1, 1) := by decide +kernel
theorem i_33_47 : Jvm.ClassFile.decode (pm_bytes 33) 47 = .ok (.invokevirtual 30, 3) := by decide +kernel
theorem i_33_50 : Jvm.ClassFile.decode (pm_bytes 33) 50 = .ok (.iload_n 2, 1) := by decide +kernel
theorem i_33_51 : Jvm.ClassFile.decode (pm_bytes 33) 51 = .ok (.ifCond .eq (13), 3) := by decide +kernel
theorem i_33_54 : Jvm.ClassFile.decode (pm_bytes 33) 54 = .ok (.iload_n 2, 1) := by decide +kernel
theorem i_33_55 : Jvm.ClassFile.decode (pm_bytes 33) 55 = .ok (.iload_n 1, 1) := by decide +kernel
theorem i_33_56 : Jvm.ClassFile.decode (pm_bytes 33) 56 = .ok (.if_icmp .eq (8), 3) := by decide +kernel
theorem i_33_59 : Jvm.ClassFile.decode (pm_bytes 33) 59 = .ok (.aload_n 0, 1) := by decide +kernel
theorem i_33_60 : Jvm.ClassFile.decode (pm_bytes 33) 60 = .ok (.iload_n 2, 1) := by decide +kernel
theorem i_33_61 : Jvm.ClassFile.decode (pm_bytes 33) 61 = .ok (.invokevirtual 30, 3) := by decide +kernel
theorem i_33_64 : Jvm.ClassFile.decode (pm_bytes 33) 64 = .ok (.iload_n 3, 1) := by decide +kernel
theorem i_33_65 : Jvm.ClassFile.decode (pm_bytes 33) 65 = .ok (.ifCond .eq (18), 3) := by decide +kernel
theorem i_33_68 : Jvm.ClassFile.decode (pm_bytes 33) 68 = .ok (.iload_n 3, 1) := by decide +kernel
theorem i_33_69 : Jvm.ClassFile.decode (pm_bytes 33) 69 = .ok (.iload_n 1, 1) := by decide +kernel
theorem i_33_70 : Jvm.ClassFile.decode (pm_bytes 33) 70 = .ok (.if_icmp .eq (13), 3) := by decide +kernel
theorem i_33_73 : Jvm.ClassFile.decode (pm_bytes 33) 73 = .ok (.iload_n 3, 1) := by decide +kernel
theorem i_33_74 : Jvm.ClassFile.decode (pm_bytes 33) 74 = .ok (.iload_n 2, 1) := by decide +kernel
theorem i_33_75 : Jvm.ClassFile.decode (pm_bytes 33) 75 = .ok (.if_icmp .eq (8), 3) := by decide +kernel
theorem i_33_78 : Jvm.ClassFile.decode (pm_bytes 33) 78 = .ok (.aload_n 0, 1) := by decide +kernel
theorem i_33_79 : Jvm.ClassFile.decode (pm_bytes 33) 79 = .ok (.iload_n 3, 1) := by decide +kernel
theorem i_33_80 : Jvm.ClassFile.decode (pm_bytes 33) 80 = .ok (.invokevirtual 30, 3) := by decide +kernel
theorem i_33_83 : Jvm.ClassFile.decode (pm_bytes 33) 83 = .ok (.aload_n 0, 1) := by decide +kernel
theorem i_33_84 : Jvm.ClassFile.decode (pm_bytes 33) 84 = .ok (.invokevirtual 34, 3) := by decide +kernel
theorem i_33_87 : Jvm.ClassFile.decode (pm_bytes 33) 87 = .ok (.pop, 1) := by decide +kernel
theorem i_33_88 : Jvm.ClassFile.decode (pm_bytes 33) 88 = .ok (.return_, 1) := by decide +kernel
theorem f_34_10 : (pm_own 34, 10, 2, 0) ∈ pm_fld := f2_10
theorem f_34_23 : (pm_own 34, 23, 2, 3) ∈ pm_fld := f2_23
theorem m_34 : pm_mL 34 = 2 := rfl
theorem r_34 : pm_ret 34 = 0 := rfl
theorem i_34_0 : Jvm.ClassFile.decode (pm_bytes 34) 0 = .ok (.aload_n 0, 1) := by decide +kernel
theorem i_34_1 : Jvm.ClassFile.decode (pm_bytes 34) 1 = .ok (.getfield 10, 3) := by decide +kernel
theorem i_34_4 : Jvm.ClassFile.decode (pm_bytes 34) 4 = .ok (.aload_n 0, 1) := by decide +kernel
theorem i_34_5 : Jvm.ClassFile.decode (pm_bytes 34) 5 = .ok (.getfield 23, 3) := by decide +kernel
theorem i_34_8 : Jvm.ClassFile.decode (pm_bytes 34) 8 = .ok (.iload_n 1, 1) := by decide +kernel
theorem i_34_9 : Jvm.ClassFile.decode (pm_bytes 34) 9 = .ok (.iastore, 1) := by decide +kernel
theorem i_34_10 : Jvm.ClassFile.decode (pm_bytes 34) 10 = .ok (.aload_n 0, 1) := by decide +kernel
theorem i_34_11 : Jvm.ClassFile.decode (pm_bytes 34) 11 = .ok (.dup, 1) := by decide +kernel
theorem i_34_12 : Jvm.ClassFile.decode (pm_bytes 34) 12 = .ok (.getfield 23, 3) := by decide +kernel
theorem i_34_15 : Jvm.ClassFile.decode (pm_bytes 34) 15 = .ok (.iconst 1, 1) := by decide +kernel
theorem i_34_16 : Jvm.ClassFile.decode (pm_bytes 34) 16 = .ok (.iadd, 1) := by decide +kernel
theorem i_34_17 : Jvm.ClassFile.decode (pm_bytes 34) 17 = .ok (.putfield 23, 3) := by decide +kernel
theorem i_34_20 : Jvm.ClassFile.decode (pm_bytes 34) 20 = .ok (.return_, 1) := by decide +kernel
theorem f_35_16 : (pm_own 35, 16, 2, 1) ∈ pm_fld := f2_16
theorem f_35_19 : (pm_own 35, 19, 2, 2) ∈ pm_fld := f2_19
theorem f_35_23 : (pm_own 35, 23, 2, 3) ∈ pm_fld := f2_23
theorem m_35 : pm_mL 35 = 2 := rfl
theorem r_35 : pm_ret 35 = 1 := rfl
theorem i_35_0 : Jvm.ClassFile.decode (pm_bytes 35) 0 = .ok (.aload_n 0, 1) := by decide +kernel
theorem i_35_1 : Jvm.ClassFile.decode (pm_bytes 35) 1 = .ok (.getfield 19, 3) := by decide +kernel
theorem i_35_4 : Jvm.ClassFile.decode (pm_bytes 35) 4 = .ok (.istore_n 1, 1) := by decide +kernel
theorem i_35_5 : Jvm.ClassFile.decode (pm_bytes 35) 5 = .ok (.aload_n 0, 1) := by decide +kernel
theorem i_35_6 : Jvm.ClassFile.decode (pm_bytes 35) 6 = .ok (.dup, 1) := by decide +kernel
theorem i_35_7 : Jvm.ClassFile.decode (pm_bytes 35) 7 = .ok (.getfield 19, 3) := by decide +kernel
theorem i_35_10 : Jvm.ClassFile.decode (pm_bytes 35) 10 = .ok (.iconst 1, 1) := by decide +kernel
theorem i_35_11 : Jvm.ClassFile.decode (pm_bytes 35) 11 = .ok (.iadd, 1) := by decide +kernel
theorem i_35_12 : Jvm.ClassFile.decode (pm_bytes 35) 12 = .ok (.putfield 19, 3) := by decide +kernel
theorem i_35_15 : Jvm.ClassFile.decode (pm_bytes 35) 15 = .ok (.aload_n 0, 1) := by decide +kernel
theorem i_35_16 : Jvm.ClassFile.decode (pm_bytes 35) 16 = .ok (.getfield 16, 3) := by decide +kernel
theorem i_35_19 : Jvm.ClassFile.decode (pm_bytes 35) 19 = .ok (.aload_n 0, 1) := by decide +kernel
theorem i_35_20 : Jvm.ClassFile.decode (pm_bytes 35) 20 = .ok (.getfield 19, 3) := by decide +kernel
theorem i_35_23 : Jvm.ClassFile.decode (pm_bytes 35) 23 = .ok (.aload_n 0, 1) := by decide +kernel
theorem i_35_24 : Jvm.ClassFile.decode (pm_bytes 35) 24 = .ok (.getfield 23, 3) := by decide +kernel
theorem i_35_27 : Jvm.ClassFile.decode (pm_bytes 35) 27 = .ok (.iastore, 1) := by decide +kernel
theorem i_35_28 : Jvm.ClassFile.decode (pm_bytes 35) 28 = .ok (.iload_n 1, 1) := by decide +kernel
theorem i_35_29 : Jvm.ClassFile.decode (pm_bytes 35) 29 = .ok (.ireturn, 1) := by decide +kernel
theorem f_36_16 : (pm_own 36, 16, 2, 1) ∈ pm_fld := f2_16
theorem m_36 : pm_mL 36 = 2 := rfl
theorem r_36 : pm_ret 36 = 1 := rfl
theorem i_36_0 : Jvm.ClassFile.decode (pm_bytes 36) 0 = .ok (.aload_n 0, 1) := by decide +kernel
theorem i_36_1 : Jvm.ClassFile.decode (pm_bytes 36) 1 = .ok (.getfield 16, 3) := by decide +kernel
theorem i_36_4 : Jvm.ClassFile.decode (pm_bytes 36) 4 = .ok (.iload_n 1, 1) := by decide +kernel
theorem i_36_5 : Jvm.ClassFile.decode (pm_bytes 36) 5 = .ok (.iconst 1, 1) := by decide +kernel
theorem i_36_6 : Jvm.ClassFile.decode (pm_bytes 36) 6 = .ok (.iadd, 1) := by decide +kernel
theorem i_36_7 : Jvm.ClassFile.decode (pm_bytes 36) 7 = .ok (.iaload, 1) := by decide +kernel
theorem i_36_8 : Jvm.ClassFile.decode (pm_bytes 36) 8 = .ok (.aload_n 0, 1) := by decide +kernel
theorem i_36_9 : Jvm.ClassFile.decode (pm_bytes 36) 9 = .ok (.getfield 16, 3) := by decide +kernel
theorem i_36_12 : Jvm.ClassFile.decode (pm_bytes 36) 12 = .ok (.iload_n 1, 1) := by decide +kernel
theorem i_36_13 : Jvm.ClassFile.decode (pm_bytes 36) 13 = .ok (.iaload, 1) := by decide +kernel
theorem i_36_14 : Jvm.ClassFile.decode (pm_bytes 36) 14 = .ok (.isub, 1) := by decide +kernel
theorem i_36_15 : Jvm.ClassFile.decode (pm_bytes 36) 15 = .ok (.ireturn, 1) := by decide +kernel
theorem f_37_15 : (pm_own 37, 15, 3, 0) ∈ pm_fld := f3_15
theorem f_37_19 : (pm_own 37, 19, 2, 2) ∈ pm_fld := f3_19
theorem f_37_25 : (pm_own 37, 25, 3, 3) ∈ pm_fld := f3_25
theorem f_37_28 : (pm_own 37, 28, 3, 4) ∈ pm_fld := f3_28
theorem m_37 : pm_mL 37 = 1 := rfl
theorem r_37 : pm_ret 37 = 0 := rfl
theorem i_37_0 : Jvm.ClassFile.decode (pm_bytes 37) 0 = .ok (.aload_n 0, 1) := by decide +kernel
theorem i_37_1 : Jvm.ClassFile.decode (pm_bytes 37) 1 = .ok (.aload_n 0, 1) := by decide +kernel
theorem i_37_2 : Jvm.ClassFile.decode (pm_bytes 37) 2 = .ok (.getfield 15, 3) := by decide +kernel
theorem i_37_5 : Jvm.ClassFile.decode (pm_bytes 37) 5 = .ok (.getfield 19, 3) := by decide +kernel
theorem i_37_8 : Jvm.ClassFile.decode (pm_bytes 37) 8 = .ok (.putfield 25, 3) := by decide +kernel
theorem i_37_11 : Jvm.ClassFile.decode (pm_bytes 37) 11 = .ok (.aload_n 0, 1) := by decide +kernel
theorem i_37_12 : Jvm.ClassFile.decode (pm_bytes 37) 12 = .ok (.iconst 0, 1) := by decide +kernel
theorem i_37_13 : Jvm.ClassFile.decode (pm_bytes 37) 13 = .ok (.putfield 28, 3) := by decide +kernel
theorem i_37_16 : Jvm.ClassFile.decode (pm_bytes 37) 16 = .ok (.return_, 1) := by decide +kernel
theorem f_38_28 : (pm_own 38, 28, 3, 4) ∈ pm_fld := f3_28
theorem m_38 : pm_mL 38 = 1 := rfl
theorem r_38 : pm_ret 38 = 2 := rfl
theorem i_38_0 : Jvm.ClassFile.decode (pm_bytes 38) 0 = .ok (.aload_n 0, 1) := by decide +kernel
theorem i_38_1 : Jvm.ClassFile.decode (pm_bytes 38) 1 = .ok (.getfield 28, 3) := by decide +kernel
theorem i_38_4 : Jvm.ClassFile.decode (pm_bytes 38) 4 = .ok (.ireturn, 1) := by decide +kernel
theorem f_39_15 : (pm_own 39, 15, 3, 0) ∈ pm_fld := f3_15
theorem f_39_25 : (pm_own 39, 25, 3, 3) ∈ pm_fld := f3_25
theorem f_39_28 : (pm_own 39, 28, 3, 4) ∈ pm_fld := f3_28
theorem k_39_32 : (pm_own 39, 32, 40, 4, (some 3 : Option Nat)) ∈ pm_call := k3_32
theorem k_39_36 : (pm_own 39, 36, 36, 2, (some 2 : Option Nat)) ∈ pm_call := k3_36
theorem m_39 : pm_mL 39 = 4 := rfl
theorem r_39 : pm_ret 39 = 0 := rfl
theorem i_39_0 : Jvm.ClassFile.decode (pm_bytes 39) 0 = .ok (.iload_n 1, 1) := by decide +kernel
theorem i_39_1 : Jvm.ClassFile.decode (pm_bytes 39) 1 = .ok (.aload_n 0, 1) := by decide +kernel
theorem i_39_2 : Jvm.ClassFile.decode (pm_bytes 39) 2 = .ok (.getfield 25, 3) := by decide +kernel
theorem i_39_5 : Jvm.ClassFile.decode (pm_bytes 39) 5 = .ok (.if_icmp .ne (50), 3) := by decide +kernel
theorem i_39_8 : Jvm.ClassFile.decode (pm_bytes 39) 8 = .ok (.aload_n 0, 1) := by decide +kernel
theorem i_39_9 : Jvm.ClassFile.decode (pm_bytes 39) 9 = .ok (.iload_n 1, 1) := by decide +kernel
theorem i_39_10 : Jvm.ClassFile.decode (pm_bytes 39) 10 = .ok (.aload_n 2, 1) := by decide +kernel
theorem i_39_11 : Jvm.ClassFile.decode (pm_bytes 39) 11 = .ok (.iload_n 3, 1) := by decide +kernel
theorem i_39_12 : Jvm.ClassFile.decode (pm_bytes 39) 12 = .ok (.invokevirtual 32, 3) := by decide +kernel
theorem i_39_15 : Jvm.ClassFile.decode (pm_bytes 39) 15 = .ok (.ifCond .eq (40), 3) := by decide +kernel
theorem i_39_18 : Jvm.ClassFile.decode (pm_bytes 39) 18 = .ok (.aload_n 0, 1) := by decide +kernel
theorem i_39_19 : Jvm.ClassFile.decode (pm_bytes 39) 19 = .ok (.dup, 1) := by decide +kernel
theorem i_39_20 : Jvm.ClassFile.decode (pm_bytes 39) 20 = .ok (.getfield 25, 3) := by decide +kernel
theorem i_39_23 : Jvm.ClassFile.decode (pm_bytes 39) 23 = .ok (.iconst 1, 1) := by decide +kernel
theorem i_39_24 : Jvm.ClassFile.decode (pm_bytes 39) 24 = .ok (.iadd, 1) := by decide +kernel
theorem i_39_25 : Jvm.ClassFile.decode (pm_bytes 39) 25 = .ok (.putfield 25, 3) := by decide +kernel
theorem i_39_28 : Jvm.ClassFile.decode (pm_bytes 39) 28 = .ok (.aload_n 0, 1) := by decide +kernel
theorem i_39_29 : Jvm.ClassFile.decode (pm_bytes 39) 29 = .ok (.aload_n 0, 1) := by decide +kernel
theorem i_39_30 : Jvm.ClassFile.decode (pm_bytes 39) 30 = .ok (.getfield 28, 3) := by decide +kernel
theorem i_39_33 : Jvm.ClassFile.decode (pm_bytes 39) 33 = .ok (.ifCond .ne (14), 3) := by decide +kernel
theorem i_39_36 : Jvm.ClassFile.decode (pm_bytes 39) 36 = .ok (.aload_n 0, 1) := by decide +kernel
theorem i_39_37 : Jvm.ClassFile.decode (pm_bytes 39) 37 = .ok (.getfield 15, 3) := by decide +kernel
theorem i_39_40 : Jvm.ClassFile.decode (pm_bytes 39) 40 = .ok (.iload_n 1, 1) := by decide +kernel
theorem i_39_41 : Jvm.ClassFile.decode (pm_bytes 39) 41 = .ok (.invokevirtual 36, 3) := by decide +kernel
theorem i_39_44 : Jvm.ClassFile.decode (pm_bytes 39) 44 = .ok (.ifCond .ne (7), 3) := by decide +kernel
theorem i_39_47 : Jvm.ClassFile.decode (pm_bytes 39) 47 = .ok (.iconst 1, 1) := by decide +kernel
theorem i_39_48 : Jvm.ClassFile.decode (pm_bytes 39) 48 = .ok (.goto (4), 3) := by decide +kernel
theorem i_39_51 : Jvm.ClassFile.decode (pm_bytes 39) 51 = .ok (.iconst 0, 1) := by decide +kernel
theorem i_39_52 : Jvm.ClassFile.decode (pm_bytes 39) 52 = .ok (.putfield 28, 3) := by decide +kernel
theorem i_39_55 : Jvm.ClassFile.decode (pm_bytes 39) 55 = .ok (.return_, 1) := by decide +kernel
end
section
/-! fetch rows of the methods 40 to 49, laid by wip/whole/gen/fetch.py -/
theorem f_40_9 : (pm_own 40, 9, 3, 1) ∈ pm_fld := f3_9
theorem f_40_15 : (pm_own 40, 15, 3, 0) ∈ pm_fld := f3_15
theorem f_40_25 : (pm_own 40, 25, 3, 3) ∈ pm_fld := f3_25
theorem f_40_40 : (pm_own 40, 40, 3, 2) ∈ pm_fld := f3_40
theorem f_40_43 : (pm_own 40, 43, 2, 1) ∈ pm_fld := f3_43
theorem f_40_46 : (pm_own 40, 46, 2, 0) ∈ pm_fld := f3_46
theorem k_40_49 : (pm_own 40, 49, 41, 2, (some 3 : Option Nat)) ∈ pm_call := k3_49
theorem k_40_52 : (pm_own 40, 52, 15, 1, (none : Option Nat)) ∈ pm_call := k3_52
theorem m_40 : pm_mL 40 = 6 := rfl
theorem r_40 : pm_ret 40 = 2 := rfl
theorem i_40_0 : Jvm.ClassFile.decode (pm_bytes 40) 0 = .ok (.aload_n 0, 1) := by decide +kernel
theorem i_40_1 : Jvm.ClassFile.decode (pm_bytes 40) 1 = .ok (.dup, 1) := by decide +kernel
theorem i_40_2 : Jvm.ClassFile.decode (pm_bytes 40) 2 = .ok (.getfield 40, 3) := by decide +kernel
theorem i_40_5 : Jvm.ClassFile.decode (pm_bytes 40) 5 = .ok (.iconst 1, 1) := by decide +kernel
theorem i_40_6 : Jvm.ClassFile.decode (pm_bytes 40) 6 = .ok (.iadd, 1) := by decide +kernel
theorem i_40_7 : Jvm.ClassFile.decode (pm_bytes 40) 7 = .ok (.putfield 40, 3) := by decide +kernel
theorem i_40_10 : Jvm.ClassFile.decode (pm_bytes 40) 10 = .ok (.aload_n 0, 1) := by decide +kernel
theorem i_40_11 : Jvm.ClassFile.decode (pm_bytes 40) 11 = .ok (.getfield 15, 3) := by decide +kernel
theorem i_40_14 : Jvm.ClassFile.decode (pm_bytes 40) 14 = .ok (.getfield 43, 3) := by decide +kernel
theorem i_40_17 : Jvm.ClassFile.decode (pm_bytes 40) 17 = .ok (.iload_n 1, 1) := by decide +kernel
theorem i_40_18 : Jvm.ClassFile.decode (pm_bytes 40) 18 = .ok (.iaload, 1) := by decide +kernel
theorem i_40_19 : Jvm.ClassFile.decode (pm_bytes 40) 19 = .ok (.istore 4, 2) := by decide +kernel
theorem i_40_21 : Jvm.ClassFile.decode (pm_bytes 40) 21 = .ok (.iload 4, 2) := by decide +kernel
theorem i_40_23 : Jvm.ClassFile.decode (pm_bytes 40) 23 = .ok (.aload_n 0, 1) := by decide +kernel
theorem i_40_24 : Jvm.ClassFile.decode (pm_bytes 40) 24 = .ok (.getfield 15, 3) := by decide +kernel
theorem i_40_27 : Jvm.ClassFile.decode (pm_bytes 40) 27 = .ok (.getfield 43, 3) := by decide +kernel
theorem i_40_30 : Jvm.ClassFile.decode (pm_bytes 40) 30 = .ok (.iload_n 1, 1) := by decide +kernel
theorem i_40_31 : Jvm.ClassFile.decode (pm_bytes 40) 31 = .ok (.iconst 1, 1) := by decide +kernel
theorem i_40_32 : Jvm.ClassFile.decode (pm_bytes 40) 32 = .ok (.iadd, 1) := by decide +kernel
theorem i_40_33 : Jvm.ClassFile.decode (pm_bytes 40) 33 = .ok (.iaload, 1) := by decide +kernel
theorem i_40_34 : Jvm.ClassFile.decode (pm_bytes 40) 34 = .ok (.if_icmp .ge (28), 3) := by decide +kernel
theorem i_40_37 : Jvm.ClassFile.decode (pm_bytes 40) 37 = .ok (.aload_n 0, 1) := by decide +kernel
theorem i_40_38 : Jvm.ClassFile.decode (pm_bytes 40) 38 = .ok (.getfield 9, 3) := by decide +kernel
theorem i_40_41 : Jvm.ClassFile.decode (pm_bytes 40) 41 = .ok (.aload_n 0, 1) := by decide +kernel
theorem i_40_42 : Jvm.ClassFile.decode (pm_bytes 40) 42 = .ok (.getfield 15, 3) := by decide +kernel
theorem i_40_45 : Jvm.ClassFile.decode (pm_bytes 40) 45 = .ok (.getfield 46, 3) := by decide +kernel
theorem i_40_48 : Jvm.ClassFile.decode (pm_bytes 40) 48 = .ok (.iload 4, 2) := by decide +kernel
theorem i_40_50 : Jvm.ClassFile.decode (pm_bytes 40) 50 = .ok (.iaload, 1) := by decide +kernel
theorem i_40_51 : Jvm.ClassFile.decode (pm_bytes 40) 51 = .ok (.aload_n 0, 1) := by decide +kernel
theorem i_40_52 : Jvm.ClassFile.decode (pm_bytes 40) 52 = .ok (.getfield 40, 3) := by decide +kernel
theorem i_40_55 : Jvm.ClassFile.decode (pm_bytes 40) 55 = .ok (.iastore, 1) := by decide +kernel
theorem i_40_56 : Jvm.ClassFile.decode (pm_bytes 40) 56 = .ok (.iinc 4 (1), 3) := by decide +kernel
theorem i_40_59 : Jvm.ClassFile.decode (pm_bytes 40) 59 = .ok (.goto (-38), 3) := by decide +kernel
theorem i_40_62 : Jvm.ClassFile.decode (pm_bytes 40) 62 = .ok (.iconst 0, 1) := by decide +kernel
theorem i_40_63 : Jvm.ClassFile.decode (pm_bytes 40) 63 = .ok (.istore 4, 2) := by decide +kernel
theorem i_40_65 : Jvm.ClassFile.decode (pm_bytes 40) 65 = .ok (.iload 4, 2) := by decide +kernel
theorem i_40_67 : Jvm.ClassFile.decode (pm_bytes 40) 67 = .ok (.iload_n 3, 1) := by decide +kernel
theorem i_40_68 : Jvm.ClassFile.decode (pm_bytes 40) 68 = .ok (.if_icmp .ge (70), 3) := by decide +kernel
theorem i_40_71 : Jvm.ClassFile.decode (pm_bytes 40) 71 = .ok (.aload_n 2, 1) := by decide +kernel
theorem i_40_72 : Jvm.ClassFile.decode (pm_bytes 40) 72 = .ok (.iload 4, 2) := by decide +kernel
theorem i_40_74 : Jvm.ClassFile.decode (pm_bytes 40) 74 = .ok (.iaload, 1) := by decide +kernel
theorem i_40_75 : Jvm.ClassFile.decode (pm_bytes 40) 75 = .ok (.ifCond .lt (14), 3) := by decide +kernel
theorem i_40_78 : Jvm.ClassFile.decode (pm_bytes 40) 78 = .ok (.aload_n 2, 1) := by decide +kernel
theorem i_40_79 : Jvm.ClassFile.decode (pm_bytes 40) 79 = .ok (.iload 4, 2) := by decide +kernel
theorem i_40_81 : Jvm.ClassFile.decode (pm_bytes 40) 81 = .ok (.iaload, 1) := by decide +kernel
theorem i_40_82 : Jvm.ClassFile.decode (pm_bytes 40) 82 = .ok (.aload_n 0, 1) := by decide +kernel
theorem i_40_83 : Jvm.ClassFile.decode (pm_bytes 40) 83 = .ok (.getfield 25, 3) := by decide +kernel
theorem i_40_86 : Jvm.ClassFile.decode (pm_bytes 40) 86 = .ok (.if_icmp .lt (5), 3) := by decide +kernel
theorem i_40_89 : Jvm.ClassFile.decode (pm_bytes 40) 89 = .ok (.iconst 0, 1) := by decide +kernel
theorem i_40_90 : Jvm.ClassFile.decode (pm_bytes 40) 90 = .ok (.ireturn, 1) := by decide +kernel
theorem i_40_91 : Jvm.ClassFile.decode (pm_bytes 40) 91 = .ok (.aload_n 0, 1) := by decide +kernel
theorem i_40_92 : Jvm.ClassFile.decode (pm_bytes 40) 92 = .ok (.aload_n 2, 1) := by decide +kernel
theorem i_40_93 : Jvm.ClassFile.decode (pm_bytes 40) 93 = .ok (.iload 4, 2) := by decide +kernel
theorem i_40_95 : Jvm.ClassFile.decode (pm_bytes 40) 95 = .ok (.iaload, 1) := by decide +kernel
theorem i_40_96 : Jvm.ClassFile.decode (pm_bytes 40) 96 = .ok (.invokevirtual 49, 3) := by decide +kernel
theorem i_40_99 : Jvm.ClassFile.decode (pm_bytes 40) 99 = .ok (.istore 5, 2) := by decide +kernel
theorem i_40_101 : Jvm.ClassFile.decode (pm_bytes 40) 101 = .ok (.iload 5, 2) := by decide +kernel
theorem i_40_103 : Jvm.ClassFile.decode (pm_bytes 40) 103 = .ok (.ifCond .ge (15), 3) := by decide +kernel
theorem i_40_106 : Jvm.ClassFile.decode (pm_bytes 40) 106 = .ok (.iload 5, 2) := by decide +kernel
theorem i_40_108 : Jvm.ClassFile.decode (pm_bytes 40) 108 = .ok (.iconst (-1), 1) := by decide +kernel
theorem i_40_109 : Jvm.ClassFile.decode (pm_bytes 40) 109 = .ok (.if_icmp .ne (7), 3) := by decide +kernel
theorem i_40_112 : Jvm.ClassFile.decode (pm_bytes 40) 112 = .ok (.iconst 1, 1) := by decide +kernel
theorem i_40_113 : Jvm.ClassFile.decode (pm_bytes 40) 113 = .ok (.goto (4), 3) := by decide +kernel
theorem i_40_116 : Jvm.ClassFile.decode (pm_bytes 40) 116 = .ok (.iconst 0, 1) := by decide +kernel
theorem i_40_117 : Jvm.ClassFile.decode (pm_bytes 40) 117 = .ok (.ireturn, 1) := by decide +kernel
theorem i_40_118 : Jvm.ClassFile.decode (pm_bytes 40) 118 = .ok (.aload_n 0, 1) := by decide +kernel
theorem i_40_119 : Jvm.ClassFile.decode (pm_bytes 40) 119 = .ok (.getfield 9, 3) := by decide +kernel
theorem i_40_122 : Jvm.ClassFile.decode (pm_bytes 40) 122 = .ok (.iload 5, 2) := by decide +kernel
theorem i_40_124 : Jvm.ClassFile.decode (pm_bytes 40) 124 = .ok (.invokestatic 52, 3) := by decide +kernel
theorem i_40_127 : Jvm.ClassFile.decode (pm_bytes 40) 127 = .ok (.aload_n 0, 1) := by decide +kernel
theorem i_40_128 : Jvm.ClassFile.decode (pm_bytes 40) 128 = .ok (.getfield 40, 3) := by decide +kernel
theorem i_40_131 : Jvm.ClassFile.decode (pm_bytes 40) 131 = .ok (.iastore, 1) := by decide +kernel
theorem i_40_132 : Jvm.ClassFile.decode (pm_bytes 40) 132 = .ok (.iinc 4 (1), 3) := by decide +kernel
theorem i_40_135 : Jvm.ClassFile.decode (pm_bytes 40) 135 = .ok (.goto (-70), 3) := by decide +kernel
theorem i_40_138 : Jvm.ClassFile.decode (pm_bytes 40) 138 = .ok (.iconst 0, 1) := by decide +kernel
theorem i_40_139 : Jvm.ClassFile.decode (pm_bytes 40) 139 = .ok (.ireturn, 1) := by decide +kernel
theorem f_41_9 : (pm_own 41, 9, 3, 1) ∈ pm_fld := f3_9
theorem f_41_15 : (pm_own 41, 15, 3, 0) ∈ pm_fld := f3_15
theorem f_41_40 : (pm_own 41, 40, 3, 2) ∈ pm_fld := f3_40
theorem f_41_43 : (pm_own 41, 43, 2, 1) ∈ pm_fld := f3_43
theorem f_41_46 : (pm_own 41, 46, 2, 0) ∈ pm_fld := f3_46
theorem m_41 : pm_mL 41 = 4 := rfl
theorem r_41 : pm_ret 41 = 1 := rfl
theorem i_41_0 : Jvm.ClassFile.decode (pm_bytes 41) 0 = .ok (.iconst (-1), 1) := by decide +kernel
theorem i_41_1 : Jvm.ClassFile.decode (pm_bytes 41) 1 = .ok (.istore_n 2, 1) := by decide +kernel
theorem i_41_2 : Jvm.ClassFile.decode (pm_bytes 41) 2 = .ok (.aload_n 0, 1) := by decide +kernel
theorem i_41_3 : Jvm.ClassFile.decode (pm_bytes 41) 3 = .ok (.getfield 15, 3) := by decide +kernel
theorem i_41_6 : Jvm.ClassFile.decode (pm_bytes 41) 6 = .ok (.getfield 43, 3) := by decide +kernel
theorem i_41_9 : Jvm.ClassFile.decode (pm_bytes 41) 9 = .ok (.iload_n 1, 1) := by decide +kernel
theorem i_41_10 : Jvm.ClassFile.decode (pm_bytes 41) 10 = .ok (.iaload, 1) := by decide +kernel
theorem i_41_11 : Jvm.ClassFile.decode (pm_bytes 41) 11 = .ok (.istore_n 3, 1) := by decide +kernel
theorem i_41_12 : Jvm.ClassFile.decode (pm_bytes 41) 12 = .ok (.iload_n 3, 1) := by decide +kernel
theorem i_41_13 : Jvm.ClassFile.decode (pm_bytes 41) 13 = .ok (.aload_n 0, 1) := by decide +kernel
theorem i_41_14 : Jvm.ClassFile.decode (pm_bytes 41) 14 = .ok (.getfield 15, 3) := by decide +kernel
theorem i_41_17 : Jvm.ClassFile.decode (pm_bytes 41) 17 = .ok (.getfield 43, 3) := by decide +kernel
theorem i_41_20 : Jvm.ClassFile.decode (pm_bytes 41) 20 = .ok (.iload_n 1, 1) := by decide +kernel
theorem i_41_21 : Jvm.ClassFile.decode (pm_bytes 41) 21 = .ok (.iconst 1, 1) := by decide +kernel
theorem i_41_22 : Jvm.ClassFile.decode (pm_bytes 41) 22 = .ok (.iadd, 1) := by decide +kernel
theorem i_41_23 : Jvm.ClassFile.decode (pm_bytes 41) 23 = .ok (.iaload, 1) := by decide +kernel
theorem i_41_24 : Jvm.ClassFile.decode (pm_bytes 41) 24 = .ok (.if_icmp .ge (50), 3) := by decide +kernel
theorem i_41_27 : Jvm.ClassFile.decode (pm_bytes 41) 27 = .ok (.aload_n 0, 1) := by decide +kernel
theorem i_41_28 : Jvm.ClassFile.decode (pm_bytes 41) 28 = .ok (.getfield 9, 3) := by decide +kernel
theorem i_41_31 : Jvm.ClassFile.decode (pm_bytes 41) 31 = .ok (.aload_n 0, 1) := by decide +kernel
theorem i_41_32 : Jvm.ClassFile.decode (pm_bytes 41) 32 = .ok (.getfield 15, 3) := by decide +kernel
theorem i_41_35 : Jvm.ClassFile.decode (pm_bytes 41) 35 = .ok (.getfield 46, 3) := by decide +kernel
theorem i_41_38 : Jvm.ClassFile.decode (pm_bytes 41) 38 = .ok (.iload_n 3, 1) := by decide +kernel
theorem i_41_39 : Jvm.ClassFile.decode (pm_bytes 41) 39 = .ok (.iaload, 1) := by decide +kernel
theorem i_41_40 : Jvm.ClassFile.decode (pm_bytes 41) 40 = .ok (.iaload, 1) := by decide +kernel
theorem i_41_41 : Jvm.ClassFile.decode (pm_bytes 41) 41 = .ok (.aload_n 0, 1) := by decide +kernel
theorem i_41_42 : Jvm.ClassFile.decode (pm_bytes 41) 42 = .ok (.getfield 40, 3) := by decide +kernel
theorem i_41_45 : Jvm.ClassFile.decode (pm_bytes 41) 45 = .ok (.if_icmp .eq (23), 3) := by decide +kernel
theorem i_41_48 : Jvm.ClassFile.decode (pm_bytes 41) 48 = .ok (.iload_n 2, 1) := by decide +kernel
theorem i_41_49 : Jvm.ClassFile.decode (pm_bytes 41) 49 = .ok (.iconst (-1), 1) := by decide +kernel
theorem i_41_50 : Jvm.ClassFile.decode (pm_bytes 41) 50 = .ok (.if_icmp .ne (15), 3) := by decide +kernel
theorem i_41_53 : Jvm.ClassFile.decode (pm_bytes 41) 53 = .ok (.aload_n 0, 1) := by decide +kernel
theorem i_41_54 : Jvm.ClassFile.decode (pm_bytes 41) 54 = .ok (.getfield 15, 3) := by decide +kernel
theorem i_41_57 : Jvm.ClassFile.decode (pm_bytes 41) 57 = .ok (.getfield 46, 3) := by decide +kernel
theorem i_41_60 : Jvm.ClassFile.decode (pm_bytes 41) 60 = .ok (.iload_n 3, 1) := by decide +kernel
theorem i_41_61 : Jvm.ClassFile.decode (pm_bytes 41) 61 = .ok (.iaload, 1) := by decide +kernel
theorem i_41_62 : Jvm.ClassFile.decode (pm_bytes 41) 62 = .ok (.goto (5), 3) := by decide +kernel
theorem i_41_65 : Jvm.ClassFile.decode (pm_bytes 41) 65 = .ok (.bipush (-2), 2) := by decide +kernel
theorem i_41_67 : Jvm.ClassFile.decode (pm_bytes 41) 67 = .ok (.istore_n 2, 1) := by decide +kernel
theorem i_41_68 : Jvm.ClassFile.decode (pm_bytes 41) 68 = .ok (.iinc 3 (1), 3) := by decide +kernel
theorem i_41_71 : Jvm.ClassFile.decode (pm_bytes 41) 71 = .ok (.goto (-59), 3) := by decide +kernel
theorem i_41_74 : Jvm.ClassFile.decode (pm_bytes 41) 74 = .ok (.iload_n 2, 1) := by decide +kernel
theorem i_41_75 : Jvm.ClassFile.decode (pm_bytes 41) 75 = .ok (.ireturn, 1) := by decide +kernel
theorem f_42_12 : (pm_own 42, 12, 4, 3) ∈ pm_fld := f4_12
theorem f_42_44 : (pm_own 42, 44, 5, 0) ∈ pm_fld := f4_44
theorem k_42_47 : (pm_own 42, 47, 14, 1, (none : Option Nat)) ∈ pm_call := k4_47
theorem m_42 : pm_mL 42 = 2 := rfl
theorem r_42 : pm_ret 42 = 2 := rfl
theorem i_42_0 : Jvm.ClassFile.decode (pm_bytes 42) 0 = .ok (.aload_n 0, 1) := by decide +kernel
theorem i_42_1 : Jvm.ClassFile.decode (pm_bytes 42) 1 = .ok (.getfield 12, 3) := by decide +kernel
theorem i_42_4 : Jvm.ClassFile.decode (pm_bytes 42) 4 = .ok (.getfield 44, 3) := by decide +kernel
theorem i_42_7 : Jvm.ClassFile.decode (pm_bytes 42) 7 = .ok (.iload_n 1, 1) := by decide +kernel
theorem i_42_8 : Jvm.ClassFile.decode (pm_bytes 42) 8 = .ok (.invokestatic 47, 3) := by decide +kernel
theorem i_42_11 : Jvm.ClassFile.decode (pm_bytes 42) 11 = .ok (.baload, 1) := by decide +kernel
theorem i_42_12 : Jvm.ClassFile.decode (pm_bytes 42) 12 = .ok (.ireturn, 1) := by decide +kernel
theorem f_43_36 : (pm_own 43, 36, 4, 1) ∈ pm_fld := f4_36
theorem k_43_51 : (pm_own 43, 51, 45, 1, (some 4 : Option Nat)) ∈ pm_call := k4_51
theorem k_43_55 : (pm_own 43, 55, 46, 1, (some 4 : Option Nat)) ∈ pm_call := k4_55
theorem k_43_58 : (pm_own 43, 58, 53, 2, (some 4 : Option Nat)) ∈ pm_call := k4_58
theorem k_43_61 : (pm_own 43, 61, 36, 2, (some 2 : Option Nat)) ∈ pm_call := k4_61
theorem k_43_66 : (pm_own 43, 66, 56, 2, (some 4 : Option Nat)) ∈ pm_call := k4_66
theorem m_43 : pm_mL 43 = 4 := rfl
theorem r_43 : pm_ret 43 = 2 := rfl
theorem i_43_0 : Jvm.ClassFile.decode (pm_bytes 43) 0 = .ok (.aload_n 0, 1) := by decide +kernel
theorem i_43_1 : Jvm.ClassFile.decode (pm_bytes 43) 1 = .ok (.invokevirtual 51, 3) := by decide +kernel
theorem i_43_4 : Jvm.ClassFile.decode (pm_bytes 43) 4 = .ok (.istore_n 1, 1) := by decide +kernel
theorem i_43_5 : Jvm.ClassFile.decode (pm_bytes 43) 5 = .ok (.iconst 0, 1) := by decide +kernel
theorem i_43_6 : Jvm.ClassFile.decode (pm_bytes 43) 6 = .ok (.istore_n 2, 1) := by decide +kernel
theorem i_43_7 : Jvm.ClassFile.decode (pm_bytes 43) 7 = .ok (.iload_n 2, 1) := by decide +kernel
theorem i_43_8 : Jvm.ClassFile.decode (pm_bytes 43) 8 = .ok (.sipush (4096), 3) := by decide +kernel
theorem i_43_11 : Jvm.ClassFile.decode (pm_bytes 43) 11 = .ok (.if_icmp .ge (52), 3) := by decide +kernel
theorem i_43_14 : Jvm.ClassFile.decode (pm_bytes 43) 14 = .ok (.iload_n 1, 1) := by decide +kernel
theorem i_43_15 : Jvm.ClassFile.decode (pm_bytes 43) 15 = .ok (.iconst (-1), 1) := by decide +kernel
theorem i_43_16 : Jvm.ClassFile.decode (pm_bytes 43) 16 = .ok (.if_icmp .ne (8), 3) := by decide +kernel
theorem i_43_19 : Jvm.ClassFile.decode (pm_bytes 43) 19 = .ok (.aload_n 0, 1) := by decide +kernel
theorem i_43_20 : Jvm.ClassFile.decode (pm_bytes 43) 20 = .ok (.invokevirtual 55, 3) := by decide +kernel
theorem i_43_23 : Jvm.ClassFile.decode (pm_bytes 43) 23 = .ok (.istore_n 1, 1) := by decide +kernel
theorem i_43_24 : Jvm.ClassFile.decode (pm_bytes 43) 24 = .ok (.iload_n 1, 1) := by decide +kernel
theorem i_43_25 : Jvm.ClassFile.decode (pm_bytes 43) 25 = .ok (.iconst (-1), 1) := by decide +kernel
theorem i_43_26 : Jvm.ClassFile.decode (pm_bytes 43) 26 = .ok (.if_icmp .ne (5), 3) := by decide +kernel
theorem i_43_29 : Jvm.ClassFile.decode (pm_bytes 43) 29 = .ok (.iconst 1, 1) := by decide +kernel
theorem i_43_30 : Jvm.ClassFile.decode (pm_bytes 43) 30 = .ok (.ireturn, 1) := by decide +kernel
theorem i_43_31 : Jvm.ClassFile.decode (pm_bytes 43) 31 = .ok (.aload_n 0, 1) := by decide +kernel
theorem i_43_32 : Jvm.ClassFile.decode (pm_bytes 43) 32 = .ok (.iload_n 1, 1) := by decide +kernel
theorem i_43_33 : Jvm.ClassFile.decode (pm_bytes 43) 33 = .ok (.invokevirtual 58, 3) := by decide +kernel
theorem i_43_36 : Jvm.ClassFile.decode (pm_bytes 43) 36 = .ok (.istore_n 3, 1) := by decide +kernel
theorem i_43_37 : Jvm.ClassFile.decode (pm_bytes 43) 37 = .ok (.aload_n 0, 1) := by decide +kernel
theorem i_43_38 : Jvm.ClassFile.decode (pm_bytes 43) 38 = .ok (.getfield 36, 3) := by decide +kernel
theorem i_43_41 : Jvm.ClassFile.decode (pm_bytes 43) 41 = .ok (.iload_n 3, 1) := by decide +kernel
theorem i_43_42 : Jvm.ClassFile.decode (pm_bytes 43) 42 = .ok (.invokevirtual 61, 3) := by decide +kernel
theorem i_43_45 : Jvm.ClassFile.decode (pm_bytes 43) 45 = .ok (.ifCond .ne (5), 3) := by decide +kernel
theorem i_43_48 : Jvm.ClassFile.decode (pm_bytes 43) 48 = .ok (.iconst 0, 1) := by decide +kernel
theorem i_43_49 : Jvm.ClassFile.decode (pm_bytes 43) 49 = .ok (.ireturn, 1) := by decide +kernel
theorem i_43_50 : Jvm.ClassFile.decode (pm_bytes 43) 50 = .ok (.aload_n 0, 1) := by decide +kernel
theorem i_43_51 : Jvm.ClassFile.decode (pm_bytes 43) 51 = .ok (.iload_n 3, 1) := by decide +kernel
theorem i_43_52 : Jvm.ClassFile.decode (pm_bytes 43) 52 = .ok (.invokevirtual 66, 3) := by decide +kernel
theorem i_43_55 : Jvm.ClassFile.decode (pm_bytes 43) 55 = .ok (.iconst (-1), 1) := by decide +kernel
theorem i_43_56 : Jvm.ClassFile.decode (pm_bytes 43) 56 = .ok (.istore_n 1, 1) := by decide +kernel
theorem i_43_57 : Jvm.ClassFile.decode (pm_bytes 43) 57 = .ok (.iinc 2 (1), 3) := by decide +kernel
theorem i_43_60 : Jvm.ClassFile.decode (pm_bytes 43) 60 = .ok (.goto (-53), 3) := by decide +kernel
theorem i_43_63 : Jvm.ClassFile.decode (pm_bytes 43) 63 = .ok (.iconst 0, 1) := by decide +kernel
theorem i_43_64 : Jvm.ClassFile.decode (pm_bytes 43) 64 = .ok (.ireturn, 1) := by decide +kernel
theorem f_44_12 : (pm_own 44, 12, 4, 3) ∈ pm_fld := f4_12
theorem f_44_18 : (pm_own 44, 18, 4, 4) ∈ pm_fld := f4_18
theorem f_44_32 : (pm_own 44, 32, 4, 0) ∈ pm_fld := f4_32
theorem f_44_73 : (pm_own 44, 73, 4, 9) ∈ pm_fld := f4_73
theorem f_44_77 : (pm_own 44, 77, 1, 6) ∈ pm_fld := f4_77
theorem k_44_70 : (pm_own 44, 70, 57, 1, (some 5 : Option Nat)) ∈ pm_call := k4_70
theorem m_44 : pm_mL 44 = 2 := rfl
theorem r_44 : pm_ret 44 = 0 := rfl
theorem i_44_0 : Jvm.ClassFile.decode (pm_bytes 44) 0 = .ok (.aload_n 0, 1) := by decide +kernel
theorem i_44_1 : Jvm.ClassFile.decode (pm_bytes 44) 1 = .ok (.getfield 12, 3) := by decide +kernel
theorem i_44_4 : Jvm.ClassFile.decode (pm_bytes 44) 4 = .ok (.invokevirtual 70, 3) := by decide +kernel
theorem i_44_7 : Jvm.ClassFile.decode (pm_bytes 44) 7 = .ok (.aload_n 0, 1) := by decide +kernel
theorem i_44_8 : Jvm.ClassFile.decode (pm_bytes 44) 8 = .ok (.iconst 0, 1) := by decide +kernel
theorem i_44_9 : Jvm.ClassFile.decode (pm_bytes 44) 9 = .ok (.putfield 73, 3) := by decide +kernel
theorem i_44_12 : Jvm.ClassFile.decode (pm_bytes 44) 12 = .ok (.iconst 0, 1) := by decide +kernel
theorem i_44_13 : Jvm.ClassFile.decode (pm_bytes 44) 13 = .ok (.istore_n 1, 1) := by decide +kernel
theorem i_44_14 : Jvm.ClassFile.decode (pm_bytes 44) 14 = .ok (.iload_n 1, 1) := by decide +kernel
theorem i_44_15 : Jvm.ClassFile.decode (pm_bytes 44) 15 = .ok (.iconst 2, 1) := by decide +kernel
theorem i_44_16 : Jvm.ClassFile.decode (pm_bytes 44) 16 = .ok (.aload_n 0, 1) := by decide +kernel
theorem i_44_17 : Jvm.ClassFile.decode (pm_bytes 44) 17 = .ok (.getfield 32, 3) := by decide +kernel
theorem i_44_20 : Jvm.ClassFile.decode (pm_bytes 44) 20 = .ok (.getfield 77, 3) := by decide +kernel
theorem i_44_23 : Jvm.ClassFile.decode (pm_bytes 44) 23 = .ok (.imul, 1) := by decide +kernel
theorem i_44_24 : Jvm.ClassFile.decode (pm_bytes 44) 24 = .ok (.if_icmp .ge (16), 3) := by decide +kernel
theorem i_44_27 : Jvm.ClassFile.decode (pm_bytes 44) 27 = .ok (.aload_n 0, 1) := by decide +kernel
theorem i_44_28 : Jvm.ClassFile.decode (pm_bytes 44) 28 = .ok (.getfield 18, 3) := by decide +kernel
theorem i_44_31 : Jvm.ClassFile.decode (pm_bytes 44) 31 = .ok (.iload_n 1, 1) := by decide +kernel
theorem i_44_32 : Jvm.ClassFile.decode (pm_bytes 44) 32 = .ok (.iconst (-1), 1) := by decide +kernel
theorem i_44_33 : Jvm.ClassFile.decode (pm_bytes 44) 33 = .ok (.iastore, 1) := by decide +kernel
theorem i_44_34 : Jvm.ClassFile.decode (pm_bytes 44) 34 = .ok (.iinc 1 (1), 3) := by decide +kernel
theorem i_44_37 : Jvm.ClassFile.decode (pm_bytes 44) 37 = .ok (.goto (-23), 3) := by decide +kernel
theorem i_44_40 : Jvm.ClassFile.decode (pm_bytes 44) 40 = .ok (.return_, 1) := by decide +kernel
theorem f_45_12 : (pm_own 45, 12, 4, 3) ∈ pm_fld := f4_12
theorem f_45_36 : (pm_own 45, 36, 4, 1) ∈ pm_fld := f4_36
theorem f_45_44 : (pm_own 45, 44, 5, 0) ∈ pm_fld := f4_44
theorem f_45_85 : (pm_own 45, 85, 2, 2) ∈ pm_fld := f4_85
theorem f_45_88 : (pm_own 45, 88, 2, 0) ∈ pm_fld := f4_88
theorem f_45_91 : (pm_own 45, 91, 2, 1) ∈ pm_fld := f4_91
theorem k_45_61 : (pm_own 45, 61, 36, 2, (some 2 : Option Nat)) ∈ pm_call := k4_61
theorem k_45_82 : (pm_own 45, 82, 44, 1, (some 4 : Option Nat)) ∈ pm_call := k4_82
theorem k_45_94 : (pm_own 45, 94, 52, 2, (some 4 : Option Nat)) ∈ pm_call := k4_94
theorem k_45_97 : (pm_own 45, 97, 15, 1, (none : Option Nat)) ∈ pm_call := k4_97
theorem k_45_100 : (pm_own 45, 100, 58, 2, (some 5 : Option Nat)) ∈ pm_call := k4_100
theorem k_45_104 : (pm_own 45, 104, 60, 3, (some 5 : Option Nat)) ∈ pm_call := k4_104
theorem m_45 : pm_mL 45 = 5 := rfl
theorem r_45 : pm_ret 45 = 1 := rfl
theorem i_45_0 : Jvm.ClassFile.decode (pm_bytes 45) 0 = .ok (.aload_n 0, 1) := by decide +kernel
theorem i_45_1 : Jvm.ClassFile.decode (pm_bytes 45) 1 = .ok (.invokevirtual 82, 3) := by decide +kernel
theorem i_45_4 : Jvm.ClassFile.decode (pm_bytes 45) 4 = .ok (.iconst (-1), 1) := by decide +kernel
theorem i_45_5 : Jvm.ClassFile.decode (pm_bytes 45) 5 = .ok (.istore_n 1, 1) := by decide +kernel
theorem i_45_6 : Jvm.ClassFile.decode (pm_bytes 45) 6 = .ok (.iconst 0, 1) := by decide +kernel
theorem i_45_7 : Jvm.ClassFile.decode (pm_bytes 45) 7 = .ok (.istore_n 2, 1) := by decide +kernel
theorem i_45_8 : Jvm.ClassFile.decode (pm_bytes 45) 8 = .ok (.iload_n 2, 1) := by decide +kernel
theorem i_45_9 : Jvm.ClassFile.decode (pm_bytes 45) 9 = .ok (.aload_n 0, 1) := by decide +kernel
theorem i_45_10 : Jvm.ClassFile.decode (pm_bytes 45) 10 = .ok (.getfield 36, 3) := by decide +kernel
theorem i_45_13 : Jvm.ClassFile.decode (pm_bytes 45) 13 = .ok (.getfield 85, 3) := by decide +kernel
theorem i_45_16 : Jvm.ClassFile.decode (pm_bytes 45) 16 = .ok (.if_icmp .ge (105), 3) := by decide +kernel
theorem i_45_19 : Jvm.ClassFile.decode (pm_bytes 45) 19 = .ok (.aload_n 0, 1) := by decide +kernel
theorem i_45_20 : Jvm.ClassFile.decode (pm_bytes 45) 20 = .ok (.getfield 36, 3) := by decide +kernel
theorem i_45_23 : Jvm.ClassFile.decode (pm_bytes 45) 23 = .ok (.iload_n 2, 1) := by decide +kernel
theorem i_45_24 : Jvm.ClassFile.decode (pm_bytes 45) 24 = .ok (.invokevirtual 61, 3) := by decide +kernel
theorem i_45_27 : Jvm.ClassFile.decode (pm_bytes 45) 27 = .ok (.istore_n 3, 1) := by decide +kernel
theorem i_45_28 : Jvm.ClassFile.decode (pm_bytes 45) 28 = .ok (.iload_n 3, 1) := by decide +kernel
theorem i_45_29 : Jvm.ClassFile.decode (pm_bytes 45) 29 = .ok (.ifCond .ne (7), 3) := by decide +kernel
theorem i_45_32 : Jvm.ClassFile.decode (pm_bytes 45) 32 = .ok (.iconst 0, 1) := by decide +kernel
theorem i_45_33 : Jvm.ClassFile.decode (pm_bytes 45) 33 = .ok (.goto (20), 3) := by decide +kernel
theorem i_45_36 : Jvm.ClassFile.decode (pm_bytes 45) 36 = .ok (.aload_n 0, 1) := by decide +kernel
theorem i_45_37 : Jvm.ClassFile.decode (pm_bytes 45) 37 = .ok (.getfield 36, 3) := by decide +kernel
theorem i_45_40 : Jvm.ClassFile.decode (pm_bytes 45) 40 = .ok (.getfield 88, 3) := by decide +kernel
theorem i_45_43 : Jvm.ClassFile.decode (pm_bytes 45) 43 = .ok (.aload_n 0, 1) := by decide +kernel
theorem i_45_44 : Jvm.ClassFile.decode (pm_bytes 45) 44 = .ok (.getfield 36, 3) := by decide +kernel
theorem i_45_47 : Jvm.ClassFile.decode (pm_bytes 45) 47 = .ok (.getfield 91, 3) := by decide +kernel
theorem i_45_50 : Jvm.ClassFile.decode (pm_bytes 45) 50 = .ok (.iload_n 2, 1) := by decide +kernel
theorem i_45_51 : Jvm.ClassFile.decode (pm_bytes 45) 51 = .ok (.iaload, 1) := by decide +kernel
theorem i_45_52 : Jvm.ClassFile.decode (pm_bytes 45) 52 = .ok (.iaload, 1) := by decide +kernel
theorem i_45_53 : Jvm.ClassFile.decode (pm_bytes 45) 53 = .ok (.istore 4, 2) := by decide +kernel
theorem i_45_55 : Jvm.ClassFile.decode (pm_bytes 45) 55 = .ok (.iload_n 3, 1) := by decide +kernel
theorem i_45_56 : Jvm.ClassFile.decode (pm_bytes 45) 56 = .ok (.iconst 1, 1) := by decide +kernel
theorem i_45_57 : Jvm.ClassFile.decode (pm_bytes 45) 57 = .ok (.if_icmp .le (11), 3) := by decide +kernel
theorem i_45_60 : Jvm.ClassFile.decode (pm_bytes 45) 60 = .ok (.aload_n 0, 1) := by decide +kernel
theorem i_45_61 : Jvm.ClassFile.decode (pm_bytes 45) 61 = .ok (.iload_n 2, 1) := by decide +kernel
theorem i_45_62 : Jvm.ClassFile.decode (pm_bytes 45) 62 = .ok (.invokevirtual 94, 3) := by decide +kernel
theorem i_45_65 : Jvm.ClassFile.decode (pm_bytes 45) 65 = .ok (.goto (50), 3) := by decide +kernel
theorem i_45_68 : Jvm.ClassFile.decode (pm_bytes 45) 68 = .ok (.iload_n 3, 1) := by decide +kernel
theorem i_45_69 : Jvm.ClassFile.decode (pm_bytes 45) 69 = .ok (.ifCond .eq (19), 3) := by decide +kernel
theorem i_45_72 : Jvm.ClassFile.decode (pm_bytes 45) 72 = .ok (.aload_n 0, 1) := by decide +kernel
theorem i_45_73 : Jvm.ClassFile.decode (pm_bytes 45) 73 = .ok (.getfield 12, 3) := by decide +kernel
theorem i_45_76 : Jvm.ClassFile.decode (pm_bytes 45) 76 = .ok (.getfield 44, 3) := by decide +kernel
theorem i_45_79 : Jvm.ClassFile.decode (pm_bytes 45) 79 = .ok (.iload 4, 2) := by decide +kernel
theorem i_45_81 : Jvm.ClassFile.decode (pm_bytes 45) 81 = .ok (.invokestatic 97, 3) := by decide +kernel
theorem i_45_84 : Jvm.ClassFile.decode (pm_bytes 45) 84 = .ok (.baload, 1) := by decide +kernel
theorem i_45_85 : Jvm.ClassFile.decode (pm_bytes 45) 85 = .ok (.ifCond .eq (8), 3) := by decide +kernel
theorem i_45_88 : Jvm.ClassFile.decode (pm_bytes 45) 88 = .ok (.iload_n 2, 1) := by decide +kernel
theorem i_45_89 : Jvm.ClassFile.decode (pm_bytes 45) 89 = .ok (.istore_n 1, 1) := by decide +kernel
theorem i_45_90 : Jvm.ClassFile.decode (pm_bytes 45) 90 = .ok (.goto (25), 3) := by decide +kernel
theorem i_45_93 : Jvm.ClassFile.decode (pm_bytes 45) 93 = .ok (.aload_n 0, 1) := by decide +kernel
theorem i_45_94 : Jvm.ClassFile.decode (pm_bytes 45) 94 = .ok (.getfield 12, 3) := by decide +kernel
theorem i_45_97 : Jvm.ClassFile.decode (pm_bytes 45) 97 = .ok (.iload 4, 2) := by decide +kernel
theorem i_45_99 : Jvm.ClassFile.decode (pm_bytes 45) 99 = .ok (.invokevirtual 100, 3) := by decide +kernel
theorem i_45_102 : Jvm.ClassFile.decode (pm_bytes 45) 102 = .ok (.ifCond .eq (13), 3) := by decide +kernel
theorem i_45_105 : Jvm.ClassFile.decode (pm_bytes 45) 105 = .ok (.aload_n 0, 1) := by decide +kernel
theorem i_45_106 : Jvm.ClassFile.decode (pm_bytes 45) 106 = .ok (.getfield 12, 3) := by decide +kernel
theorem i_45_109 : Jvm.ClassFile.decode (pm_bytes 45) 109 = .ok (.iload 4, 2) := by decide +kernel
theorem i_45_111 : Jvm.ClassFile.decode (pm_bytes 45) 111 = .ok (.iload_n 2, 1) := by decide +kernel
theorem i_45_112 : Jvm.ClassFile.decode (pm_bytes 45) 112 = .ok (.invokevirtual 104, 3) := by decide +kernel
theorem i_45_115 : Jvm.ClassFile.decode (pm_bytes 45) 115 = .ok (.iinc 2 (1), 3) := by decide +kernel
theorem i_45_118 : Jvm.ClassFile.decode (pm_bytes 45) 118 = .ok (.goto (-110), 3) := by decide +kernel
theorem i_45_121 : Jvm.ClassFile.decode (pm_bytes 45) 121 = .ok (.iload_n 1, 1) := by decide +kernel
theorem i_45_122 : Jvm.ClassFile.decode (pm_bytes 45) 122 = .ok (.ireturn, 1) := by decide +kernel
theorem f_46_12 : (pm_own 46, 12, 4, 3) ∈ pm_fld := f4_12
theorem f_46_32 : (pm_own 46, 32, 4, 0) ∈ pm_fld := f4_32
theorem f_46_111 : (pm_own 46, 111, 1, 7) ∈ pm_fld := f4_111
theorem f_46_114 : (pm_own 46, 114, 1, 5) ∈ pm_fld := f4_114
theorem k_46_47 : (pm_own 46, 47, 14, 1, (none : Option Nat)) ∈ pm_call := k4_47
theorem k_46_97 : (pm_own 46, 97, 15, 1, (none : Option Nat)) ∈ pm_call := k4_97
theorem k_46_100 : (pm_own 46, 100, 58, 2, (some 5 : Option Nat)) ∈ pm_call := k4_100
theorem k_46_108 : (pm_own 46, 108, 47, 1, (some 4 : Option Nat)) ∈ pm_call := k4_108
theorem k_46_117 : (pm_own 46, 117, 59, 2, (some 5 : Option Nat)) ∈ pm_call := k4_117
theorem m_46 : pm_mL 46 = 4 := rfl
theorem r_46 : pm_ret 46 = 1 := rfl
theorem i_46_0 : Jvm.ClassFile.decode (pm_bytes 46) 0 = .ok (.aload_n 0, 1) := by decide +kernel
theorem i_46_1 : Jvm.ClassFile.decode (pm_bytes 46) 1 = .ok (.invokevirtual 108, 3) := by decide +kernel
theorem i_46_4 : Jvm.ClassFile.decode (pm_bytes 46) 4 = .ok (.istore_n 1, 1) := by decide +kernel
theorem i_46_5 : Jvm.ClassFile.decode (pm_bytes 46) 5 = .ok (.iconst 0, 1) := by decide +kernel
theorem i_46_6 : Jvm.ClassFile.decode (pm_bytes 46) 6 = .ok (.istore_n 2, 1) := by decide +kernel
theorem i_46_7 : Jvm.ClassFile.decode (pm_bytes 46) 7 = .ok (.iload_n 2, 1) := by decide +kernel
theorem i_46_8 : Jvm.ClassFile.decode (pm_bytes 46) 8 = .ok (.aload_n 0, 1) := by decide +kernel
theorem i_46_9 : Jvm.ClassFile.decode (pm_bytes 46) 9 = .ok (.getfield 32, 3) := by decide +kernel
theorem i_46_12 : Jvm.ClassFile.decode (pm_bytes 46) 12 = .ok (.getfield 111, 3) := by decide +kernel
theorem i_46_15 : Jvm.ClassFile.decode (pm_bytes 46) 15 = .ok (.if_icmp .ge (54), 3) := by decide +kernel
theorem i_46_18 : Jvm.ClassFile.decode (pm_bytes 46) 18 = .ok (.iload_n 1, 1) := by decide +kernel
theorem i_46_19 : Jvm.ClassFile.decode (pm_bytes 46) 19 = .ok (.iconst (-1), 1) := by decide +kernel
theorem i_46_20 : Jvm.ClassFile.decode (pm_bytes 46) 20 = .ok (.if_icmp .ne (49), 3) := by decide +kernel
theorem i_46_23 : Jvm.ClassFile.decode (pm_bytes 46) 23 = .ok (.aload_n 0, 1) := by decide +kernel
theorem i_46_24 : Jvm.ClassFile.decode (pm_bytes 46) 24 = .ok (.getfield 32, 3) := by decide +kernel
theorem i_46_27 : Jvm.ClassFile.decode (pm_bytes 46) 27 = .ok (.getfield 114, 3) := by decide +kernel
theorem i_46_30 : Jvm.ClassFile.decode (pm_bytes 46) 30 = .ok (.iload_n 2, 1) := by decide +kernel
theorem i_46_31 : Jvm.ClassFile.decode (pm_bytes 46) 31 = .ok (.iaload, 1) := by decide +kernel
theorem i_46_32 : Jvm.ClassFile.decode (pm_bytes 46) 32 = .ok (.invokestatic 47, 3) := by decide +kernel
theorem i_46_35 : Jvm.ClassFile.decode (pm_bytes 46) 35 = .ok (.istore_n 3, 1) := by decide +kernel
theorem i_46_36 : Jvm.ClassFile.decode (pm_bytes 46) 36 = .ok (.aload_n 0, 1) := by decide +kernel
theorem i_46_37 : Jvm.ClassFile.decode (pm_bytes 46) 37 = .ok (.getfield 12, 3) := by decide +kernel
theorem i_46_40 : Jvm.ClassFile.decode (pm_bytes 46) 40 = .ok (.iload_n 3, 1) := by decide +kernel
theorem i_46_41 : Jvm.ClassFile.decode (pm_bytes 46) 41 = .ok (.invokevirtual 100, 3) := by decide +kernel
theorem i_46_44 : Jvm.ClassFile.decode (pm_bytes 46) 44 = .ok (.ifCond .eq (19), 3) := by decide +kernel
theorem i_46_47 : Jvm.ClassFile.decode (pm_bytes 46) 47 = .ok (.aload_n 0, 1) := by decide +kernel
theorem i_46_48 : Jvm.ClassFile.decode (pm_bytes 46) 48 = .ok (.getfield 12, 3) := by decide +kernel
theorem i_46_51 : Jvm.ClassFile.decode (pm_bytes 46) 51 = .ok (.iload_n 3, 1) := by decide +kernel
theorem i_46_52 : Jvm.ClassFile.decode (pm_bytes 46) 52 = .ok (.invokestatic 97, 3) := by decide +kernel
theorem i_46_55 : Jvm.ClassFile.decode (pm_bytes 46) 55 = .ok (.invokevirtual 117, 3) := by decide +kernel
theorem i_46_58 : Jvm.ClassFile.decode (pm_bytes 46) 58 = .ok (.aload_n 0, 1) := by decide +kernel
theorem i_46_59 : Jvm.ClassFile.decode (pm_bytes 46) 59 = .ok (.invokevirtual 108, 3) := by decide +kernel
theorem i_46_62 : Jvm.ClassFile.decode (pm_bytes 46) 62 = .ok (.istore_n 1, 1) := by decide +kernel
theorem i_46_63 : Jvm.ClassFile.decode (pm_bytes 46) 63 = .ok (.iinc 2 (1), 3) := by decide +kernel
theorem i_46_66 : Jvm.ClassFile.decode (pm_bytes 46) 66 = .ok (.goto (-59), 3) := by decide +kernel
theorem i_46_69 : Jvm.ClassFile.decode (pm_bytes 46) 69 = .ok (.iload_n 1, 1) := by decide +kernel
theorem i_46_70 : Jvm.ClassFile.decode (pm_bytes 46) 70 = .ok (.ireturn, 1) := by decide +kernel
theorem f_47_12 : (pm_own 47, 12, 4, 3) ∈ pm_fld := f4_12
theorem f_47_73 : (pm_own 47, 73, 4, 9) ∈ pm_fld := f4_73
theorem f_47_120 : (pm_own 47, 120, 5, 4) ∈ pm_fld := f4_120
theorem f_47_123 : (pm_own 47, 123, 5, 2) ∈ pm_fld := f4_123
theorem k_47_97 : (pm_own 47, 97, 15, 1, (none : Option Nat)) ∈ pm_call := k4_97
theorem k_47_126 : (pm_own 47, 126, 48, 2, (some 4 : Option Nat)) ∈ pm_call := k4_126
theorem m_47 : pm_mL 47 = 2 := rfl
theorem r_47 : pm_ret 47 = 1 := rfl
theorem i_47_0 : Jvm.ClassFile.decode (pm_bytes 47) 0 = .ok (.iconst (-1), 1) := by decide +kernel
theorem i_47_1 : Jvm.ClassFile.decode (pm_bytes 47) 1 = .ok (.istore_n 1, 1) := by decide +kernel
theorem i_47_2 : Jvm.ClassFile.decode (pm_bytes 47) 2 = .ok (.aload_n 0, 1) := by decide +kernel
theorem i_47_3 : Jvm.ClassFile.decode (pm_bytes 47) 3 = .ok (.getfield 73, 3) := by decide +kernel
theorem i_47_6 : Jvm.ClassFile.decode (pm_bytes 47) 6 = .ok (.aload_n 0, 1) := by decide +kernel
theorem i_47_7 : Jvm.ClassFile.decode (pm_bytes 47) 7 = .ok (.getfield 12, 3) := by decide +kernel
theorem i_47_10 : Jvm.ClassFile.decode (pm_bytes 47) 10 = .ok (.getfield 120, 3) := by decide +kernel
theorem i_47_13 : Jvm.ClassFile.decode (pm_bytes 47) 13 = .ok (.if_icmp .ge (51), 3) := by decide +kernel
theorem i_47_16 : Jvm.ClassFile.decode (pm_bytes 47) 16 = .ok (.aload_n 0, 1) := by decide +kernel
theorem i_47_17 : Jvm.ClassFile.decode (pm_bytes 47) 17 = .ok (.getfield 73, 3) := by decide +kernel
theorem i_47_20 : Jvm.ClassFile.decode (pm_bytes 47) 20 = .ok (.sipush (2000), 3) := by decide +kernel
theorem i_47_23 : Jvm.ClassFile.decode (pm_bytes 47) 23 = .ok (.if_icmp .ge (41), 3) := by decide +kernel
theorem i_47_26 : Jvm.ClassFile.decode (pm_bytes 47) 26 = .ok (.iload_n 1, 1) := by decide +kernel
theorem i_47_27 : Jvm.ClassFile.decode (pm_bytes 47) 27 = .ok (.iconst (-1), 1) := by decide +kernel
theorem i_47_28 : Jvm.ClassFile.decode (pm_bytes 47) 28 = .ok (.if_icmp .ne (36), 3) := by decide +kernel
theorem i_47_31 : Jvm.ClassFile.decode (pm_bytes 47) 31 = .ok (.aload_n 0, 1) := by decide +kernel
theorem i_47_32 : Jvm.ClassFile.decode (pm_bytes 47) 32 = .ok (.aload_n 0, 1) := by decide +kernel
theorem i_47_33 : Jvm.ClassFile.decode (pm_bytes 47) 33 = .ok (.getfield 12, 3) := by decide +kernel
theorem i_47_36 : Jvm.ClassFile.decode (pm_bytes 47) 36 = .ok (.getfield 123, 3) := by decide +kernel
theorem i_47_39 : Jvm.ClassFile.decode (pm_bytes 47) 39 = .ok (.aload_n 0, 1) := by decide +kernel
theorem i_47_40 : Jvm.ClassFile.decode (pm_bytes 47) 40 = .ok (.getfield 73, 3) := by decide +kernel
theorem i_47_43 : Jvm.ClassFile.decode (pm_bytes 47) 43 = .ok (.iaload, 1) := by decide +kernel
theorem i_47_44 : Jvm.ClassFile.decode (pm_bytes 47) 44 = .ok (.invokestatic 97, 3) := by decide +kernel
theorem i_47_47 : Jvm.ClassFile.decode (pm_bytes 47) 47 = .ok (.invokevirtual 126, 3) := by decide +kernel
theorem i_47_50 : Jvm.ClassFile.decode (pm_bytes 47) 50 = .ok (.istore_n 1, 1) := by decide +kernel
theorem i_47_51 : Jvm.ClassFile.decode (pm_bytes 47) 51 = .ok (.aload_n 0, 1) := by decide +kernel
theorem i_47_52 : Jvm.ClassFile.decode (pm_bytes 47) 52 = .ok (.dup, 1) := by decide +kernel
theorem i_47_53 : Jvm.ClassFile.decode (pm_bytes 47) 53 = .ok (.getfield 73, 3) := by decide +kernel
theorem i_47_56 : Jvm.ClassFile.decode (pm_bytes 47) 56 = .ok (.iconst 1, 1) := by decide +kernel
theorem i_47_57 : Jvm.ClassFile.decode (pm_bytes 47) 57 = .ok (.iadd, 1) := by decide +kernel
theorem i_47_58 : Jvm.ClassFile.decode (pm_bytes 47) 58 = .ok (.putfield 73, 3) := by decide +kernel
theorem i_47_61 : Jvm.ClassFile.decode (pm_bytes 47) 61 = .ok (.goto (-59), 3) := by decide +kernel
theorem i_47_64 : Jvm.ClassFile.decode (pm_bytes 47) 64 = .ok (.iload_n 1, 1) := by decide +kernel
theorem i_47_65 : Jvm.ClassFile.decode (pm_bytes 47) 65 = .ok (.ireturn, 1) := by decide +kernel
theorem f_48_12 : (pm_own 48, 12, 4, 3) ∈ pm_fld := f4_12
theorem f_48_18 : (pm_own 48, 18, 4, 4) ∈ pm_fld := f4_18
theorem f_48_22 : (pm_own 48, 22, 4, 5) ∈ pm_fld := f4_22
theorem f_48_36 : (pm_own 48, 36, 4, 1) ∈ pm_fld := f4_36
theorem f_48_44 : (pm_own 48, 44, 5, 0) ∈ pm_fld := f4_44
theorem f_48_88 : (pm_own 48, 88, 2, 0) ∈ pm_fld := f4_88
theorem f_48_91 : (pm_own 48, 91, 2, 1) ∈ pm_fld := f4_91
theorem k_48_97 : (pm_own 48, 97, 15, 1, (none : Option Nat)) ∈ pm_call := k4_97
theorem k_48_104 : (pm_own 48, 104, 60, 3, (some 5 : Option Nat)) ∈ pm_call := k4_104
theorem k_48_129 : (pm_own 48, 129, 49, 2, (some 4 : Option Nat)) ∈ pm_call := k4_129
theorem k_48_132 : (pm_own 48, 132, 50, 3, (some 4 : Option Nat)) ∈ pm_call := k4_132
theorem k_48_135 : (pm_own 48, 135, 51, 4, (some 4 : Option Nat)) ∈ pm_call := k4_135
theorem m_48 : pm_mL 48 = 9 := rfl
theorem r_48 : pm_ret 48 = 1 := rfl
theorem i_48_0 : Jvm.ClassFile.decode (pm_bytes 48) 0 = .ok (.iconst (-1), 1) := by decide +kernel
theorem i_48_1 : Jvm.ClassFile.decode (pm_bytes 48) 1 = .ok (.istore_n 2, 1) := by decide +kernel
theorem i_48_2 : Jvm.ClassFile.decode (pm_bytes 48) 2 = .ok (.aload_n 0, 1) := by decide +kernel
theorem i_48_3 : Jvm.ClassFile.decode (pm_bytes 48) 3 = .ok (.getfield 18, 3) := by decide +kernel
theorem i_48_6 : Jvm.ClassFile.decode (pm_bytes 48) 6 = .ok (.iload_n 1, 1) := by decide +kernel
theorem i_48_7 : Jvm.ClassFile.decode (pm_bytes 48) 7 = .ok (.iaload, 1) := by decide +kernel
theorem i_48_8 : Jvm.ClassFile.decode (pm_bytes 48) 8 = .ok (.istore_n 3, 1) := by decide +kernel
theorem i_48_9 : Jvm.ClassFile.decode (pm_bytes 48) 9 = .ok (.iconst 0, 1) := by decide +kernel
theorem i_48_10 : Jvm.ClassFile.decode (pm_bytes 48) 10 = .ok (.istore 4, 2) := by decide +kernel
theorem i_48_12 : Jvm.ClassFile.decode (pm_bytes 48) 12 = .ok (.iload 4, 2) := by decide +kernel
theorem i_48_14 : Jvm.ClassFile.decode (pm_bytes 48) 14 = .ok (.aload_n 0, 1) := by decide +kernel
theorem i_48_15 : Jvm.ClassFile.decode (pm_bytes 48) 15 = .ok (.getfield 22, 3) := by decide +kernel
theorem i_48_18 : Jvm.ClassFile.decode (pm_bytes 48) 18 = .ok (.arraylength, 1) := by decide +kernel
theorem i_48_19 : Jvm.ClassFile.decode (pm_bytes 48) 19 = .ok (.if_icmp .ge (151), 3) := by decide +kernel
theorem i_48_22 : Jvm.ClassFile.decode (pm_bytes 48) 22 = .ok (.iload_n 3, 1) := by decide +kernel
theorem i_48_23 : Jvm.ClassFile.decode (pm_bytes 48) 23 = .ok (.iconst (-1), 1) := by decide +kernel
theorem i_48_24 : Jvm.ClassFile.decode (pm_bytes 48) 24 = .ok (.if_icmp .eq (146), 3) := by decide +kernel
theorem i_48_27 : Jvm.ClassFile.decode (pm_bytes 48) 27 = .ok (.aload_n 0, 1) := by decide +kernel
theorem i_48_28 : Jvm.ClassFile.decode (pm_bytes 48) 28 = .ok (.getfield 22, 3) := by decide +kernel
theorem i_48_31 : Jvm.ClassFile.decode (pm_bytes 48) 31 = .ok (.iload_n 3, 1) := by decide +kernel
theorem i_48_32 : Jvm.ClassFile.decode (pm_bytes 48) 32 = .ok (.iaload, 1) := by decide +kernel
theorem i_48_33 : Jvm.ClassFile.decode (pm_bytes 48) 33 = .ok (.istore 5, 2) := by decide +kernel
theorem i_48_35 : Jvm.ClassFile.decode (pm_bytes 48) 35 = .ok (.iload_n 3, 1) := by decide +kernel
theorem i_48_36 : Jvm.ClassFile.decode (pm_bytes 48) 36 = .ok (.iconst 1, 1) := by decide +kernel
theorem i_48_37 : Jvm.ClassFile.decode (pm_bytes 48) 37 = .ok (.ishr, 1) := by decide +kernel
theorem i_48_38 : Jvm.ClassFile.decode (pm_bytes 48) 38 = .ok (.istore 6, 2) := by decide +kernel
theorem i_48_40 : Jvm.ClassFile.decode (pm_bytes 48) 40 = .ok (.aload_n 0, 1) := by decide +kernel
theorem i_48_41 : Jvm.ClassFile.decode (pm_bytes 48) 41 = .ok (.getfield 36, 3) := by decide +kernel
theorem i_48_44 : Jvm.ClassFile.decode (pm_bytes 48) 44 = .ok (.getfield 88, 3) := by decide +kernel
theorem i_48_47 : Jvm.ClassFile.decode (pm_bytes 48) 47 = .ok (.aload_n 0, 1) := by decide +kernel
theorem i_48_48 : Jvm.ClassFile.decode (pm_bytes 48) 48 = .ok (.getfield 36, 3) := by decide +kernel
theorem i_48_51 : Jvm.ClassFile.decode (pm_bytes 48) 51 = .ok (.getfield 91, 3) := by decide +kernel
theorem i_48_54 : Jvm.ClassFile.decode (pm_bytes 48) 54 = .ok (.iload 6, 2) := by decide +kernel
theorem i_48_56 : Jvm.ClassFile.decode (pm_bytes 48) 56 = .ok (.iaload, 1) := by decide +kernel
theorem i_48_57 : Jvm.ClassFile.decode (pm_bytes 48) 57 = .ok (.iload_n 3, 1) := by decide +kernel
theorem i_48_58 : Jvm.ClassFile.decode (pm_bytes 48) 58 = .ok (.invokestatic 97, 3) := by decide +kernel
theorem i_48_61 : Jvm.ClassFile.decode (pm_bytes 48) 61 = .ok (.iconst 1, 1) := by decide +kernel
theorem i_48_62 : Jvm.ClassFile.decode (pm_bytes 48) 62 = .ok (.iand, 1) := by decide +kernel
theorem i_48_63 : Jvm.ClassFile.decode (pm_bytes 48) 63 = .ok (.iadd, 1) := by decide +kernel
theorem i_48_64 : Jvm.ClassFile.decode (pm_bytes 48) 64 = .ok (.iaload, 1) := by decide +kernel
theorem i_48_65 : Jvm.ClassFile.decode (pm_bytes 48) 65 = .ok (.istore 7, 2) := by decide +kernel
theorem i_48_67 : Jvm.ClassFile.decode (pm_bytes 48) 67 = .ok (.aload_n 0, 1) := by decide +kernel
theorem i_48_68 : Jvm.ClassFile.decode (pm_bytes 48) 68 = .ok (.getfield 12, 3) := by decide +kernel
theorem i_48_71 : Jvm.ClassFile.decode (pm_bytes 48) 71 = .ok (.getfield 44, 3) := by decide +kernel
theorem i_48_74 : Jvm.ClassFile.decode (pm_bytes 48) 74 = .ok (.iload 7, 2) := by decide +kernel
theorem i_48_76 : Jvm.ClassFile.decode (pm_bytes 48) 76 = .ok (.baload, 1) := by decide +kernel
theorem i_48_77 : Jvm.ClassFile.decode (pm_bytes 48) 77 = .ok (.ifCond .eq (7), 3) := by decide +kernel
theorem i_48_80 : Jvm.ClassFile.decode (pm_bytes 48) 80 = .ok (.iconst (-1), 1) := by decide +kernel
theorem i_48_81 : Jvm.ClassFile.decode (pm_bytes 48) 81 = .ok (.goto (9), 3) := by decide +kernel
theorem i_48_84 : Jvm.ClassFile.decode (pm_bytes 48) 84 = .ok (.aload_n 0, 1) := by decide +kernel
theorem i_48_85 : Jvm.ClassFile.decode (pm_bytes 48) 85 = .ok (.iload 6, 2) := by decide +kernel
theorem i_48_87 : Jvm.ClassFile.decode (pm_bytes 48) 87 = .ok (.invokevirtual 129, 3) := by decide +kernel
theorem i_48_90 : Jvm.ClassFile.decode (pm_bytes 48) 90 = .ok (.istore 8, 2) := by decide +kernel
theorem i_48_92 : Jvm.ClassFile.decode (pm_bytes 48) 92 = .ok (.iload 8, 2) := by decide +kernel
theorem i_48_94 : Jvm.ClassFile.decode (pm_bytes 48) 94 = .ok (.iconst (-1), 1) := by decide +kernel
theorem i_48_95 : Jvm.ClassFile.decode (pm_bytes 48) 95 = .ok (.if_icmp .eq (21), 3) := by decide +kernel
theorem i_48_98 : Jvm.ClassFile.decode (pm_bytes 48) 98 = .ok (.aload_n 0, 1) := by decide +kernel
theorem i_48_99 : Jvm.ClassFile.decode (pm_bytes 48) 99 = .ok (.iload_n 3, 1) := by decide +kernel
theorem i_48_100 : Jvm.ClassFile.decode (pm_bytes 48) 100 = .ok (.iload 8, 2) := by decide +kernel
theorem i_48_102 : Jvm.ClassFile.decode (pm_bytes 48) 102 = .ok (.invokevirtual 132, 3) := by decide +kernel
theorem i_48_105 : Jvm.ClassFile.decode (pm_bytes 48) 105 = .ok (.aload_n 0, 1) := by decide +kernel
theorem i_48_106 : Jvm.ClassFile.decode (pm_bytes 48) 106 = .ok (.iload_n 1, 1) := by decide +kernel
theorem i_48_107 : Jvm.ClassFile.decode (pm_bytes 48) 107 = .ok (.iload_n 2, 1) := by decide +kernel
theorem i_48_108 : Jvm.ClassFile.decode (pm_bytes 48) 108 = .ok (.iload 5, 2) := by decide +kernel
theorem i_48_110 : Jvm.ClassFile.decode (pm_bytes 48) 110 = .ok (.invokevirtual 135, 3) := by decide +kernel
theorem i_48_113 : Jvm.ClassFile.decode (pm_bytes 48) 113 = .ok (.goto (48), 3) := by decide +kernel
theorem i_48_116 : Jvm.ClassFile.decode (pm_bytes 48) 116 = .ok (.iload_n 3, 1) := by decide +kernel
theorem i_48_117 : Jvm.ClassFile.decode (pm_bytes 48) 117 = .ok (.istore_n 2, 1) := by decide +kernel
theorem i_48_118 : Jvm.ClassFile.decode (pm_bytes 48) 118 = .ok (.aload_n 0, 1) := by decide +kernel
theorem i_48_119 : Jvm.ClassFile.decode (pm_bytes 48) 119 = .ok (.getfield 12, 3) := by decide +kernel
theorem i_48_122 : Jvm.ClassFile.decode (pm_bytes 48) 122 = .ok (.getfield 44, 3) := by decide +kernel
theorem i_48_125 : Jvm.ClassFile.decode (pm_bytes 48) 125 = .ok (.iload 7, 2) := by decide +kernel
theorem i_48_127 : Jvm.ClassFile.decode (pm_bytes 48) 127 = .ok (.invokestatic 97, 3) := by decide +kernel
theorem i_48_130 : Jvm.ClassFile.decode (pm_bytes 48) 130 = .ok (.baload, 1) := by decide +kernel
theorem i_48_131 : Jvm.ClassFile.decode (pm_bytes 48) 131 = .ok (.ifCond .eq (6), 3) := by decide +kernel
theorem i_48_134 : Jvm.ClassFile.decode (pm_bytes 48) 134 = .ok (.iload 6, 2) := by decide +kernel
theorem i_48_136 : Jvm.ClassFile.decode (pm_bytes 48) 136 = .ok (.ireturn, 1) := by decide +kernel
theorem i_48_137 : Jvm.ClassFile.decode (pm_bytes 48) 137 = .ok (.aload_n 0, 1) := by decide +kernel
theorem i_48_138 : Jvm.ClassFile.decode (pm_bytes 48) 138 = .ok (.getfield 12, 3) := by decide +kernel
theorem i_48_141 : Jvm.ClassFile.decode (pm_bytes 48) 141 = .ok (.getfield 44, 3) := by decide +kernel
theorem i_48_144 : Jvm.ClassFile.decode (pm_bytes 48) 144 = .ok (.iload 7, 2) := by decide +kernel
theorem i_48_146 : Jvm.ClassFile.decode (pm_bytes 48) 146 = .ok (.baload, 1) := by decide +kernel
theorem i_48_147 : Jvm.ClassFile.decode (pm_bytes 48) 147 = .ok (.ifCond .ne (14), 3) := by decide +kernel
theorem i_48_150 : Jvm.ClassFile.decode (pm_bytes 48) 150 = .ok (.aload_n 0, 1) := by decide +kernel
theorem i_48_151 : Jvm.ClassFile.decode (pm_bytes 48) 151 = .ok (.getfield 12, 3) := by decide +kernel
theorem i_48_154 : Jvm.ClassFile.decode (pm_bytes 48) 154 = .ok (.iload 7, 2) := by decide +kernel
theorem i_48_156 : Jvm.ClassFile.decode (pm_bytes 48) 156 = .ok (.iload 6, 2) := by decide +kernel
theorem i_48_158 : Jvm.ClassFile.decode (pm_bytes 48) 158 = .ok (.invokevirtual 104, 3) := by decide +kernel
theorem i_48_161 : Jvm.ClassFile.decode (pm_bytes 48) 161 = .ok (.iload 5, 2) := by decide +kernel
theorem i_48_163 : Jvm.ClassFile.decode (pm_bytes 48) 163 = .ok (.istore_n 3, 1) := by decide +kernel
theorem i_48_164 : Jvm.ClassFile.decode (pm_bytes 48) 164 = .ok (.iinc 4 (1), 3) := by decide +kernel
theorem i_48_167 : Jvm.ClassFile.decode (pm_bytes 48) 167 = .ok (.goto (-155), 3) := by decide +kernel
theorem i_48_170 : Jvm.ClassFile.decode (pm_bytes 48) 170 = .ok (.iconst (-1), 1) := by decide +kernel
theorem i_48_171 : Jvm.ClassFile.decode (pm_bytes 48) 171 = .ok (.ireturn, 1) := by decide +kernel
theorem f_49_12 : (pm_own 49, 12, 4, 3) ∈ pm_fld := f4_12
theorem f_49_36 : (pm_own 49, 36, 4, 1) ∈ pm_fld := f4_36
theorem f_49_44 : (pm_own 49, 44, 5, 0) ∈ pm_fld := f4_44
theorem f_49_88 : (pm_own 49, 88, 2, 0) ∈ pm_fld := f4_88
theorem f_49_91 : (pm_own 49, 91, 2, 1) ∈ pm_fld := f4_91
theorem k_49_97 : (pm_own 49, 97, 15, 1, (none : Option Nat)) ∈ pm_call := k4_97
theorem m_49 : pm_mL 49 = 3 := rfl
theorem r_49 : pm_ret 49 = 1 := rfl
theorem i_49_0 : Jvm.ClassFile.decode (pm_bytes 49) 0 = .ok (.aload_n 0, 1) := by decide +kernel
theorem i_49_1 : Jvm.ClassFile.decode (pm_bytes 49) 1 = .ok (.getfield 36, 3) := by decide +kernel
theorem i_49_4 : Jvm.ClassFile.decode (pm_bytes 49) 4 = .ok (.getfield 91, 3) := by decide +kernel
theorem i_49_7 : Jvm.ClassFile.decode (pm_bytes 49) 7 = .ok (.iload_n 1, 1) := by decide +kernel
theorem i_49_8 : Jvm.ClassFile.decode (pm_bytes 49) 8 = .ok (.iaload, 1) := by decide +kernel
theorem i_49_9 : Jvm.ClassFile.decode (pm_bytes 49) 9 = .ok (.iconst 2, 1) := by decide +kernel
theorem i_49_10 : Jvm.ClassFile.decode (pm_bytes 49) 10 = .ok (.iadd, 1) := by decide +kernel
theorem i_49_11 : Jvm.ClassFile.decode (pm_bytes 49) 11 = .ok (.istore_n 2, 1) := by decide +kernel
theorem i_49_12 : Jvm.ClassFile.decode (pm_bytes 49) 12 = .ok (.iload_n 2, 1) := by decide +kernel
theorem i_49_13 : Jvm.ClassFile.decode (pm_bytes 49) 13 = .ok (.aload_n 0, 1) := by decide +kernel
theorem i_49_14 : Jvm.ClassFile.decode (pm_bytes 49) 14 = .ok (.getfield 36, 3) := by decide +kernel
theorem i_49_17 : Jvm.ClassFile.decode (pm_bytes 49) 17 = .ok (.getfield 91, 3) := by decide +kernel
theorem i_49_20 : Jvm.ClassFile.decode (pm_bytes 49) 20 = .ok (.iload_n 1, 1) := by decide +kernel
theorem i_49_21 : Jvm.ClassFile.decode (pm_bytes 49) 21 = .ok (.iconst 1, 1) := by decide +kernel
theorem i_49_22 : Jvm.ClassFile.decode (pm_bytes 49) 22 = .ok (.iadd, 1) := by decide +kernel
theorem i_49_23 : Jvm.ClassFile.decode (pm_bytes 49) 23 = .ok (.iaload, 1) := by decide +kernel
theorem i_49_24 : Jvm.ClassFile.decode (pm_bytes 49) 24 = .ok (.if_icmp .ge (34), 3) := by decide +kernel
theorem i_49_27 : Jvm.ClassFile.decode (pm_bytes 49) 27 = .ok (.aload_n 0, 1) := by decide +kernel
theorem i_49_28 : Jvm.ClassFile.decode (pm_bytes 49) 28 = .ok (.getfield 12, 3) := by decide +kernel
theorem i_49_31 : Jvm.ClassFile.decode (pm_bytes 49) 31 = .ok (.getfield 44, 3) := by decide +kernel
theorem i_49_34 : Jvm.ClassFile.decode (pm_bytes 49) 34 = .ok (.aload_n 0, 1) := by decide +kernel
theorem i_49_35 : Jvm.ClassFile.decode (pm_bytes 49) 35 = .ok (.getfield 36, 3) := by decide +kernel
theorem i_49_38 : Jvm.ClassFile.decode (pm_bytes 49) 38 = .ok (.getfield 88, 3) := by decide +kernel
theorem i_49_41 : Jvm.ClassFile.decode (pm_bytes 49) 41 = .ok (.iload_n 2, 1) := by decide +kernel
theorem i_49_42 : Jvm.ClassFile.decode (pm_bytes 49) 42 = .ok (.iaload, 1) := by decide +kernel
theorem i_49_43 : Jvm.ClassFile.decode (pm_bytes 49) 43 = .ok (.invokestatic 97, 3) := by decide +kernel
theorem i_49_46 : Jvm.ClassFile.decode (pm_bytes 49) 46 = .ok (.baload, 1) := by decide +kernel
theorem i_49_47 : Jvm.ClassFile.decode (pm_bytes 49) 47 = .ok (.ifCond .ne (5), 3) := by decide +kernel
theorem i_49_50 : Jvm.ClassFile.decode (pm_bytes 49) 50 = .ok (.iload_n 2, 1) := by decide +kernel
theorem i_49_51 : Jvm.ClassFile.decode (pm_bytes 49) 51 = .ok (.ireturn, 1) := by decide +kernel
theorem i_49_52 : Jvm.ClassFile.decode (pm_bytes 49) 52 = .ok (.iinc 2 (1), 3) := by decide +kernel
theorem i_49_55 : Jvm.ClassFile.decode (pm_bytes 49) 55 = .ok (.goto (-43), 3) := by decide +kernel
theorem i_49_58 : Jvm.ClassFile.decode (pm_bytes 49) 58 = .ok (.iconst (-1), 1) := by decide +kernel
theorem i_49_59 : Jvm.ClassFile.decode (pm_bytes 49) 59 = .ok (.ireturn, 1) := by decide +kernel
end
section
/-! fetch rows of the methods 50 to 62, laid by wip/whole/gen/fetch.py -/
theorem f_50_18 : (pm_own 50, 18, 4, 4) ∈ pm_fld := f4_18
theorem f_50_22 : (pm_own 50, 22, 4, 5) ∈ pm_fld := f4_22
theorem f_50_36 : (pm_own 50, 36, 4, 1) ∈ pm_fld := f4_36
theorem f_50_88 : (pm_own 50, 88, 2, 0) ∈ pm_fld := f4_88
theorem f_50_91 : (pm_own 50, 91, 2, 1) ∈ pm_fld := f4_91
theorem m_50 : pm_mL 50 = 5 := rfl
theorem r_50 : pm_ret 50 = 0 := rfl
theorem i_50_0 : Jvm.ClassFile.decode (pm_bytes 50) 0 = .ok (.aload_n 0, 1) := by decide +kernel
theorem i_50_1 : Jvm.ClassFile.decode (pm_bytes 50) 1 = .ok (.getfield 36, 3) := by decide +kernel
theorem i_50_4 : Jvm.ClassFile.decode (pm_bytes 50) 4 = .ok (.getfield 91, 3) := by decide +kernel
theorem i_50_7 : Jvm.ClassFile.decode (pm_bytes 50) 7 = .ok (.iload_n 1, 1) := by decide +kernel
theorem i_50_8 : Jvm.ClassFile.decode (pm_bytes 50) 8 = .ok (.iconst 1, 1) := by decide +kernel
theorem i_50_9 : Jvm.ClassFile.decode (pm_bytes 50) 9 = .ok (.ishr, 1) := by decide +kernel
theorem i_50_10 : Jvm.ClassFile.decode (pm_bytes 50) 10 = .ok (.iaload, 1) := by decide +kernel
theorem i_50_11 : Jvm.ClassFile.decode (pm_bytes 50) 11 = .ok (.iload_n 1, 1) := by decide +kernel
theorem i_50_12 : Jvm.ClassFile.decode (pm_bytes 50) 12 = .ok (.iconst 1, 1) := by decide +kernel
theorem i_50_13 : Jvm.ClassFile.decode (pm_bytes 50) 13 = .ok (.iand, 1) := by decide +kernel
theorem i_50_14 : Jvm.ClassFile.decode (pm_bytes 50) 14 = .ok (.iadd, 1) := by decide +kernel
theorem i_50_15 : Jvm.ClassFile.decode (pm_bytes 50) 15 = .ok (.istore_n 3, 1) := by decide +kernel
theorem i_50_16 : Jvm.ClassFile.decode (pm_bytes 50) 16 = .ok (.aload_n 0, 1) := by decide +kernel
theorem i_50_17 : Jvm.ClassFile.decode (pm_bytes 50) 17 = .ok (.getfield 36, 3) := by decide +kernel
theorem i_50_20 : Jvm.ClassFile.decode (pm_bytes 50) 20 = .ok (.getfield 88, 3) := by decide +kernel
theorem i_50_23 : Jvm.ClassFile.decode (pm_bytes 50) 23 = .ok (.iload_n 2, 1) := by decide +kernel
theorem i_50_24 : Jvm.ClassFile.decode (pm_bytes 50) 24 = .ok (.iaload, 1) := by decide +kernel
theorem i_50_25 : Jvm.ClassFile.decode (pm_bytes 50) 25 = .ok (.istore 4, 2) := by decide +kernel
theorem i_50_27 : Jvm.ClassFile.decode (pm_bytes 50) 27 = .ok (.aload_n 0, 1) := by decide +kernel
theorem i_50_28 : Jvm.ClassFile.decode (pm_bytes 50) 28 = .ok (.getfield 36, 3) := by decide +kernel
theorem i_50_31 : Jvm.ClassFile.decode (pm_bytes 50) 31 = .ok (.getfield 88, 3) := by decide +kernel
theorem i_50_34 : Jvm.ClassFile.decode (pm_bytes 50) 34 = .ok (.iload_n 2, 1) := by decide +kernel
theorem i_50_35 : Jvm.ClassFile.decode (pm_bytes 50) 35 = .ok (.aload_n 0, 1) := by decide +kernel
theorem i_50_36 : Jvm.ClassFile.decode (pm_bytes 50) 36 = .ok (.getfield 36, 3) := by decide +kernel
theorem i_50_39 : Jvm.ClassFile.decode (pm_bytes 50) 39 = .ok (.getfield 88, 3) := by decide +kernel
theorem i_50_42 : Jvm.ClassFile.decode (pm_bytes 50) 42 = .ok (.iload_n 3, 1) := by decide +kernel
theorem i_50_43 : Jvm.ClassFile.decode (pm_bytes 50) 43 = .ok (.iaload, 1) := by decide +kernel
theorem i_50_44 : Jvm.ClassFile.decode (pm_bytes 50) 44 = .ok (.iastore, 1) := by decide +kernel
theorem i_50_45 : Jvm.ClassFile.decode (pm_bytes 50) 45 = .ok (.aload_n 0, 1) := by decide +kernel
theorem i_50_46 : Jvm.ClassFile.decode (pm_bytes 50) 46 = .ok (.getfield 36, 3) := by decide +kernel
theorem i_50_49 : Jvm.ClassFile.decode (pm_bytes 50) 49 = .ok (.getfield 88, 3) := by decide +kernel
theorem i_50_52 : Jvm.ClassFile.decode (pm_bytes 50) 52 = .ok (.iload_n 3, 1) := by decide +kernel
theorem i_50_53 : Jvm.ClassFile.decode (pm_bytes 50) 53 = .ok (.iload 4, 2) := by decide +kernel
theorem i_50_55 : Jvm.ClassFile.decode (pm_bytes 50) 55 = .ok (.iastore, 1) := by decide +kernel
theorem i_50_56 : Jvm.ClassFile.decode (pm_bytes 50) 56 = .ok (.aload_n 0, 1) := by decide +kernel
theorem i_50_57 : Jvm.ClassFile.decode (pm_bytes 50) 57 = .ok (.getfield 22, 3) := by decide +kernel
theorem i_50_60 : Jvm.ClassFile.decode (pm_bytes 50) 60 = .ok (.iload_n 1, 1) := by decide +kernel
theorem i_50_61 : Jvm.ClassFile.decode (pm_bytes 50) 61 = .ok (.aload_n 0, 1) := by decide +kernel
theorem i_50_62 : Jvm.ClassFile.decode (pm_bytes 50) 62 = .ok (.getfield 18, 3) := by decide +kernel
theorem i_50_65 : Jvm.ClassFile.decode (pm_bytes 50) 65 = .ok (.iload 4, 2) := by decide +kernel
theorem i_50_67 : Jvm.ClassFile.decode (pm_bytes 50) 67 = .ok (.iaload, 1) := by decide +kernel
theorem i_50_68 : Jvm.ClassFile.decode (pm_bytes 50) 68 = .ok (.iastore, 1) := by decide +kernel
theorem i_50_69 : Jvm.ClassFile.decode (pm_bytes 50) 69 = .ok (.aload_n 0, 1) := by decide +kernel
theorem i_50_70 : Jvm.ClassFile.decode (pm_bytes 50) 70 = .ok (.getfield 18, 3) := by decide +kernel
theorem i_50_73 : Jvm.ClassFile.decode (pm_bytes 50) 73 = .ok (.iload 4, 2) := by decide +kernel
theorem i_50_75 : Jvm.ClassFile.decode (pm_bytes 50) 75 = .ok (.iload_n 1, 1) := by decide +kernel
theorem i_50_76 : Jvm.ClassFile.decode (pm_bytes 50) 76 = .ok (.iastore, 1) := by decide +kernel
theorem i_50_77 : Jvm.ClassFile.decode (pm_bytes 50) 77 = .ok (.return_, 1) := by decide +kernel
theorem f_51_18 : (pm_own 51, 18, 4, 4) ∈ pm_fld := f4_18
theorem f_51_22 : (pm_own 51, 22, 4, 5) ∈ pm_fld := f4_22
theorem m_51 : pm_mL 51 = 4 := rfl
theorem r_51 : pm_ret 51 = 0 := rfl
theorem i_51_0 : Jvm.ClassFile.decode (pm_bytes 51) 0 = .ok (.iload_n 2, 1) := by decide +kernel
theorem i_51_1 : Jvm.ClassFile.decode (pm_bytes 51) 1 = .ok (.iconst (-1), 1) := by decide +kernel
theorem i_51_2 : Jvm.ClassFile.decode (pm_bytes 51) 2 = .ok (.if_icmp .ne (13), 3) := by decide +kernel
theorem i_51_5 : Jvm.ClassFile.decode (pm_bytes 51) 5 = .ok (.aload_n 0, 1) := by decide +kernel
theorem i_51_6 : Jvm.ClassFile.decode (pm_bytes 51) 6 = .ok (.getfield 18, 3) := by decide +kernel
theorem i_51_9 : Jvm.ClassFile.decode (pm_bytes 51) 9 = .ok (.iload_n 1, 1) := by decide +kernel
theorem i_51_10 : Jvm.ClassFile.decode (pm_bytes 51) 10 = .ok (.iload_n 3, 1) := by decide +kernel
theorem i_51_11 : Jvm.ClassFile.decode (pm_bytes 51) 11 = .ok (.iastore, 1) := by decide +kernel
theorem i_51_12 : Jvm.ClassFile.decode (pm_bytes 51) 12 = .ok (.goto (10), 3) := by decide +kernel
theorem i_51_15 : Jvm.ClassFile.decode (pm_bytes 51) 15 = .ok (.aload_n 0, 1) := by decide +kernel
theorem i_51_16 : Jvm.ClassFile.decode (pm_bytes 51) 16 = .ok (.getfield 22, 3) := by decide +kernel
theorem i_51_19 : Jvm.ClassFile.decode (pm_bytes 51) 19 = .ok (.iload_n 2, 1) := by decide +kernel
theorem i_51_20 : Jvm.ClassFile.decode (pm_bytes 51) 20 = .ok (.iload_n 3, 1) := by decide +kernel
theorem i_51_21 : Jvm.ClassFile.decode (pm_bytes 51) 21 = .ok (.iastore, 1) := by decide +kernel
theorem i_51_22 : Jvm.ClassFile.decode (pm_bytes 51) 22 = .ok (.return_, 1) := by decide +kernel
theorem f_52_18 : (pm_own 52, 18, 4, 4) ∈ pm_fld := f4_18
theorem f_52_22 : (pm_own 52, 22, 4, 5) ∈ pm_fld := f4_22
theorem f_52_36 : (pm_own 52, 36, 4, 1) ∈ pm_fld := f4_36
theorem f_52_88 : (pm_own 52, 88, 2, 0) ∈ pm_fld := f4_88
theorem f_52_91 : (pm_own 52, 91, 2, 1) ∈ pm_fld := f4_91
theorem m_52 : pm_mL 52 = 5 := rfl
theorem r_52 : pm_ret 52 = 0 := rfl
theorem i_52_0 : Jvm.ClassFile.decode (pm_bytes 52) 0 = .ok (.iconst 0, 1) := by decide +kernel
theorem i_52_1 : Jvm.ClassFile.decode (pm_bytes 52) 1 = .ok (.istore_n 2, 1) := by decide +kernel
theorem i_52_2 : Jvm.ClassFile.decode (pm_bytes 52) 2 = .ok (.iload_n 2, 1) := by decide +kernel
theorem i_52_3 : Jvm.ClassFile.decode (pm_bytes 52) 3 = .ok (.iconst 2, 1) := by decide +kernel
theorem i_52_4 : Jvm.ClassFile.decode (pm_bytes 52) 4 = .ok (.if_icmp .ge (57), 3) := by decide +kernel
theorem i_52_7 : Jvm.ClassFile.decode (pm_bytes 52) 7 = .ok (.aload_n 0, 1) := by decide +kernel
theorem i_52_8 : Jvm.ClassFile.decode (pm_bytes 52) 8 = .ok (.getfield 36, 3) := by decide +kernel
theorem i_52_11 : Jvm.ClassFile.decode (pm_bytes 52) 11 = .ok (.getfield 88, 3) := by decide +kernel
theorem i_52_14 : Jvm.ClassFile.decode (pm_bytes 52) 14 = .ok (.aload_n 0, 1) := by decide +kernel
theorem i_52_15 : Jvm.ClassFile.decode (pm_bytes 52) 15 = .ok (.getfield 36, 3) := by decide +kernel
theorem i_52_18 : Jvm.ClassFile.decode (pm_bytes 52) 18 = .ok (.getfield 91, 3) := by decide +kernel
theorem i_52_21 : Jvm.ClassFile.decode (pm_bytes 52) 21 = .ok (.iload_n 1, 1) := by decide +kernel
theorem i_52_22 : Jvm.ClassFile.decode (pm_bytes 52) 22 = .ok (.iaload, 1) := by decide +kernel
theorem i_52_23 : Jvm.ClassFile.decode (pm_bytes 52) 23 = .ok (.iload_n 2, 1) := by decide +kernel
theorem i_52_24 : Jvm.ClassFile.decode (pm_bytes 52) 24 = .ok (.iadd, 1) := by decide +kernel
theorem i_52_25 : Jvm.ClassFile.decode (pm_bytes 52) 25 = .ok (.iaload, 1) := by decide +kernel
theorem i_52_26 : Jvm.ClassFile.decode (pm_bytes 52) 26 = .ok (.istore_n 3, 1) := by decide +kernel
theorem i_52_27 : Jvm.ClassFile.decode (pm_bytes 52) 27 = .ok (.iconst 2, 1) := by decide +kernel
theorem i_52_28 : Jvm.ClassFile.decode (pm_bytes 52) 28 = .ok (.iload_n 1, 1) := by decide +kernel
theorem i_52_29 : Jvm.ClassFile.decode (pm_bytes 52) 29 = .ok (.imul, 1) := by decide +kernel
theorem i_52_30 : Jvm.ClassFile.decode (pm_bytes 52) 30 = .ok (.iload_n 2, 1) := by decide +kernel
theorem i_52_31 : Jvm.ClassFile.decode (pm_bytes 52) 31 = .ok (.iadd, 1) := by decide +kernel
theorem i_52_32 : Jvm.ClassFile.decode (pm_bytes 52) 32 = .ok (.istore 4, 2) := by decide +kernel
theorem i_52_34 : Jvm.ClassFile.decode (pm_bytes 52) 34 = .ok (.aload_n 0, 1) := by decide +kernel
theorem i_52_35 : Jvm.ClassFile.decode (pm_bytes 52) 35 = .ok (.getfield 22, 3) := by decide +kernel
theorem i_52_38 : Jvm.ClassFile.decode (pm_bytes 52) 38 = .ok (.iload 4, 2) := by decide +kernel
theorem i_52_40 : Jvm.ClassFile.decode (pm_bytes 52) 40 = .ok (.aload_n 0, 1) := by decide +kernel
theorem i_52_41 : Jvm.ClassFile.decode (pm_bytes 52) 41 = .ok (.getfield 18, 3) := by decide +kernel
theorem i_52_44 : Jvm.ClassFile.decode (pm_bytes 52) 44 = .ok (.iload_n 3, 1) := by decide +kernel
theorem i_52_45 : Jvm.ClassFile.decode (pm_bytes 52) 45 = .ok (.iaload, 1) := by decide +kernel
theorem i_52_46 : Jvm.ClassFile.decode (pm_bytes 52) 46 = .ok (.iastore, 1) := by decide +kernel
theorem i_52_47 : Jvm.ClassFile.decode (pm_bytes 52) 47 = .ok (.aload_n 0, 1) := by decide +kernel
theorem i_52_48 : Jvm.ClassFile.decode (pm_bytes 52) 48 = .ok (.getfield 18, 3) := by decide +kernel
theorem i_52_51 : Jvm.ClassFile.decode (pm_bytes 52) 51 = .ok (.iload_n 3, 1) := by decide +kernel
theorem i_52_52 : Jvm.ClassFile.decode (pm_bytes 52) 52 = .ok (.iload 4, 2) := by decide +kernel
theorem i_52_54 : Jvm.ClassFile.decode (pm_bytes 52) 54 = .ok (.iastore, 1) := by decide +kernel
theorem i_52_55 : Jvm.ClassFile.decode (pm_bytes 52) 55 = .ok (.iinc 2 (1), 3) := by decide +kernel
theorem i_52_58 : Jvm.ClassFile.decode (pm_bytes 52) 58 = .ok (.goto (-56), 3) := by decide +kernel
theorem i_52_61 : Jvm.ClassFile.decode (pm_bytes 52) 61 = .ok (.return_, 1) := by decide +kernel
theorem f_53_12 : (pm_own 53, 12, 4, 3) ∈ pm_fld := f4_12
theorem f_53_25 : (pm_own 53, 25, 4, 6) ∈ pm_fld := f4_25
theorem f_53_29 : (pm_own 53, 29, 4, 7) ∈ pm_fld := f4_29
theorem f_53_36 : (pm_own 53, 36, 4, 1) ∈ pm_fld := f4_36
theorem f_53_40 : (pm_own 53, 40, 4, 2) ∈ pm_fld := f4_40
theorem f_53_120 : (pm_own 53, 120, 5, 4) ∈ pm_fld := f4_120
theorem f_53_123 : (pm_own 53, 123, 5, 2) ∈ pm_fld := f4_123
theorem f_53_145 : (pm_own 53, 145, 5, 1) ∈ pm_fld := f4_145
theorem f_53_157 : (pm_own 53, 157, 4, 8) ∈ pm_fld := f4_157
theorem k_53_97 : (pm_own 53, 97, 15, 1, (none : Option Nat)) ∈ pm_call := k4_97
theorem k_53_139 : (pm_own 53, 139, 54, 2, (some 4 : Option Nat)) ∈ pm_call := k4_139
theorem k_53_142 : (pm_own 53, 142, 16, 1, (none : Option Nat)) ∈ pm_call := k4_142
theorem k_53_148 : (pm_own 53, 148, 34, 2, (some 2 : Option Nat)) ∈ pm_call := k4_148
theorem k_53_151 : (pm_own 53, 151, 35, 1, (some 2 : Option Nat)) ∈ pm_call := k4_151
theorem k_53_154 : (pm_own 53, 154, 55, 2, (some 4 : Option Nat)) ∈ pm_call := k4_154
theorem k_53_160 : (pm_own 53, 160, 39, 4, (some 3 : Option Nat)) ∈ pm_call := k4_160
theorem m_53 : pm_mL 53 = 4 := rfl
theorem r_53 : pm_ret 53 = 1 := rfl
theorem i_53_0 : Jvm.ClassFile.decode (pm_bytes 53) 0 = .ok (.aload_n 0, 1) := by decide +kernel
theorem i_53_1 : Jvm.ClassFile.decode (pm_bytes 53) 1 = .ok (.iload_n 1, 1) := by decide +kernel
theorem i_53_2 : Jvm.ClassFile.decode (pm_bytes 53) 2 = .ok (.invokevirtual 139, 3) := by decide +kernel
theorem i_53_5 : Jvm.ClassFile.decode (pm_bytes 53) 5 = .ok (.aload_n 0, 1) := by decide +kernel
theorem i_53_6 : Jvm.ClassFile.decode (pm_bytes 53) 6 = .ok (.getfield 12, 3) := by decide +kernel
theorem i_53_9 : Jvm.ClassFile.decode (pm_bytes 53) 9 = .ok (.getfield 120, 3) := by decide +kernel
theorem i_53_12 : Jvm.ClassFile.decode (pm_bytes 53) 12 = .ok (.iconst 1, 1) := by decide +kernel
theorem i_53_13 : Jvm.ClassFile.decode (pm_bytes 53) 13 = .ok (.isub, 1) := by decide +kernel
theorem i_53_14 : Jvm.ClassFile.decode (pm_bytes 53) 14 = .ok (.istore_n 2, 1) := by decide +kernel
theorem i_53_15 : Jvm.ClassFile.decode (pm_bytes 53) 15 = .ok (.iload_n 2, 1) := by decide +kernel
theorem i_53_16 : Jvm.ClassFile.decode (pm_bytes 53) 16 = .ok (.ifCond .lt (71), 3) := by decide +kernel
theorem i_53_19 : Jvm.ClassFile.decode (pm_bytes 53) 19 = .ok (.aload_n 0, 1) := by decide +kernel
theorem i_53_20 : Jvm.ClassFile.decode (pm_bytes 53) 20 = .ok (.getfield 12, 3) := by decide +kernel
theorem i_53_23 : Jvm.ClassFile.decode (pm_bytes 53) 23 = .ok (.getfield 123, 3) := by decide +kernel
theorem i_53_26 : Jvm.ClassFile.decode (pm_bytes 53) 26 = .ok (.iload_n 2, 1) := by decide +kernel
theorem i_53_27 : Jvm.ClassFile.decode (pm_bytes 53) 27 = .ok (.iaload, 1) := by decide +kernel
theorem i_53_28 : Jvm.ClassFile.decode (pm_bytes 53) 28 = .ok (.istore_n 3, 1) := by decide +kernel
theorem i_53_29 : Jvm.ClassFile.decode (pm_bytes 53) 29 = .ok (.aload_n 0, 1) := by decide +kernel
theorem i_53_30 : Jvm.ClassFile.decode (pm_bytes 53) 30 = .ok (.getfield 25, 3) := by decide +kernel
theorem i_53_33 : Jvm.ClassFile.decode (pm_bytes 53) 33 = .ok (.iload_n 3, 1) := by decide +kernel
theorem i_53_34 : Jvm.ClassFile.decode (pm_bytes 53) 34 = .ok (.invokestatic 142, 3) := by decide +kernel
theorem i_53_37 : Jvm.ClassFile.decode (pm_bytes 53) 37 = .ok (.baload, 1) := by decide +kernel
theorem i_53_38 : Jvm.ClassFile.decode (pm_bytes 53) 38 = .ok (.ifCond .eq (43), 3) := by decide +kernel
theorem i_53_41 : Jvm.ClassFile.decode (pm_bytes 53) 41 = .ok (.aload_n 0, 1) := by decide +kernel
theorem i_53_42 : Jvm.ClassFile.decode (pm_bytes 53) 42 = .ok (.getfield 12, 3) := by decide +kernel
theorem i_53_45 : Jvm.ClassFile.decode (pm_bytes 53) 45 = .ok (.getfield 145, 3) := by decide +kernel
theorem i_53_48 : Jvm.ClassFile.decode (pm_bytes 53) 48 = .ok (.iload_n 3, 1) := by decide +kernel
theorem i_53_49 : Jvm.ClassFile.decode (pm_bytes 53) 49 = .ok (.iaload, 1) := by decide +kernel
theorem i_53_50 : Jvm.ClassFile.decode (pm_bytes 53) 50 = .ok (.iconst (-1), 1) := by decide +kernel
theorem i_53_51 : Jvm.ClassFile.decode (pm_bytes 53) 51 = .ok (.if_icmp .ne (17), 3) := by decide +kernel
theorem i_53_54 : Jvm.ClassFile.decode (pm_bytes 53) 54 = .ok (.aload_n 0, 1) := by decide +kernel
theorem i_53_55 : Jvm.ClassFile.decode (pm_bytes 53) 55 = .ok (.getfield 36, 3) := by decide +kernel
theorem i_53_58 : Jvm.ClassFile.decode (pm_bytes 53) 58 = .ok (.iload_n 3, 1) := by decide +kernel
theorem i_53_59 : Jvm.ClassFile.decode (pm_bytes 53) 59 = .ok (.invokestatic 97, 3) := by decide +kernel
theorem i_53_62 : Jvm.ClassFile.decode (pm_bytes 53) 62 = .ok (.invokevirtual 148, 3) := by decide +kernel
theorem i_53_65 : Jvm.ClassFile.decode (pm_bytes 53) 65 = .ok (.goto (16), 3) := by decide +kernel
theorem i_53_68 : Jvm.ClassFile.decode (pm_bytes 53) 68 = .ok (.aload_n 0, 1) := by decide +kernel
theorem i_53_69 : Jvm.ClassFile.decode (pm_bytes 53) 69 = .ok (.aload_n 0, 1) := by decide +kernel
theorem i_53_70 : Jvm.ClassFile.decode (pm_bytes 53) 70 = .ok (.getfield 12, 3) := by decide +kernel
theorem i_53_73 : Jvm.ClassFile.decode (pm_bytes 53) 73 = .ok (.getfield 145, 3) := by decide +kernel
theorem i_53_76 : Jvm.ClassFile.decode (pm_bytes 53) 76 = .ok (.iload_n 3, 1) := by decide +kernel
theorem i_53_77 : Jvm.ClassFile.decode (pm_bytes 53) 77 = .ok (.iaload, 1) := by decide +kernel
theorem i_53_78 : Jvm.ClassFile.decode (pm_bytes 53) 78 = .ok (.invokevirtual 139, 3) := by decide +kernel
theorem i_53_81 : Jvm.ClassFile.decode (pm_bytes 53) 81 = .ok (.iinc 2 (-1), 3) := by decide +kernel
theorem i_53_84 : Jvm.ClassFile.decode (pm_bytes 53) 84 = .ok (.goto (-69), 3) := by decide +kernel
theorem i_53_87 : Jvm.ClassFile.decode (pm_bytes 53) 87 = .ok (.aload_n 0, 1) := by decide +kernel
theorem i_53_88 : Jvm.ClassFile.decode (pm_bytes 53) 88 = .ok (.getfield 36, 3) := by decide +kernel
theorem i_53_91 : Jvm.ClassFile.decode (pm_bytes 53) 91 = .ok (.invokevirtual 151, 3) := by decide +kernel
theorem i_53_94 : Jvm.ClassFile.decode (pm_bytes 53) 94 = .ok (.istore_n 2, 1) := by decide +kernel
theorem i_53_95 : Jvm.ClassFile.decode (pm_bytes 53) 95 = .ok (.aload_n 0, 1) := by decide +kernel
theorem i_53_96 : Jvm.ClassFile.decode (pm_bytes 53) 96 = .ok (.iload_n 1, 1) := by decide +kernel
theorem i_53_97 : Jvm.ClassFile.decode (pm_bytes 53) 97 = .ok (.invokevirtual 154, 3) := by decide +kernel
theorem i_53_100 : Jvm.ClassFile.decode (pm_bytes 53) 100 = .ok (.aload_n 0, 1) := by decide +kernel
theorem i_53_101 : Jvm.ClassFile.decode (pm_bytes 53) 101 = .ok (.getfield 40, 3) := by decide +kernel
theorem i_53_104 : Jvm.ClassFile.decode (pm_bytes 53) 104 = .ok (.iload_n 2, 1) := by decide +kernel
theorem i_53_105 : Jvm.ClassFile.decode (pm_bytes 53) 105 = .ok (.aload_n 0, 1) := by decide +kernel
theorem i_53_106 : Jvm.ClassFile.decode (pm_bytes 53) 106 = .ok (.getfield 29, 3) := by decide +kernel
theorem i_53_109 : Jvm.ClassFile.decode (pm_bytes 53) 109 = .ok (.aload_n 0, 1) := by decide +kernel
theorem i_53_110 : Jvm.ClassFile.decode (pm_bytes 53) 110 = .ok (.getfield 157, 3) := by decide +kernel
theorem i_53_113 : Jvm.ClassFile.decode (pm_bytes 53) 113 = .ok (.invokevirtual 160, 3) := by decide +kernel
theorem i_53_116 : Jvm.ClassFile.decode (pm_bytes 53) 116 = .ok (.iload_n 2, 1) := by decide +kernel
theorem i_53_117 : Jvm.ClassFile.decode (pm_bytes 53) 117 = .ok (.ireturn, 1) := by decide +kernel
theorem f_54_25 : (pm_own 54, 25, 4, 6) ∈ pm_fld := f4_25
theorem f_54_36 : (pm_own 54, 36, 4, 1) ∈ pm_fld := f4_36
theorem f_54_88 : (pm_own 54, 88, 2, 0) ∈ pm_fld := f4_88
theorem f_54_91 : (pm_own 54, 91, 2, 1) ∈ pm_fld := f4_91
theorem k_54_142 : (pm_own 54, 142, 16, 1, (none : Option Nat)) ∈ pm_call := k4_142
theorem m_54 : pm_mL 54 = 3 := rfl
theorem r_54 : pm_ret 54 = 0 := rfl
theorem i_54_0 : Jvm.ClassFile.decode (pm_bytes 54) 0 = .ok (.aload_n 0, 1) := by decide +kernel
theorem i_54_1 : Jvm.ClassFile.decode (pm_bytes 54) 1 = .ok (.getfield 36, 3) := by decide +kernel
theorem i_54_4 : Jvm.ClassFile.decode (pm_bytes 54) 4 = .ok (.getfield 91, 3) := by decide +kernel
theorem i_54_7 : Jvm.ClassFile.decode (pm_bytes 54) 7 = .ok (.iload_n 1, 1) := by decide +kernel
theorem i_54_8 : Jvm.ClassFile.decode (pm_bytes 54) 8 = .ok (.iaload, 1) := by decide +kernel
theorem i_54_9 : Jvm.ClassFile.decode (pm_bytes 54) 9 = .ok (.istore_n 2, 1) := by decide +kernel
theorem i_54_10 : Jvm.ClassFile.decode (pm_bytes 54) 10 = .ok (.iload_n 2, 1) := by decide +kernel
theorem i_54_11 : Jvm.ClassFile.decode (pm_bytes 54) 11 = .ok (.aload_n 0, 1) := by decide +kernel
theorem i_54_12 : Jvm.ClassFile.decode (pm_bytes 54) 12 = .ok (.getfield 36, 3) := by decide +kernel
theorem i_54_15 : Jvm.ClassFile.decode (pm_bytes 54) 15 = .ok (.getfield 91, 3) := by decide +kernel
theorem i_54_18 : Jvm.ClassFile.decode (pm_bytes 54) 18 = .ok (.iload_n 1, 1) := by decide +kernel
theorem i_54_19 : Jvm.ClassFile.decode (pm_bytes 54) 19 = .ok (.iconst 1, 1) := by decide +kernel
theorem i_54_20 : Jvm.ClassFile.decode (pm_bytes 54) 20 = .ok (.iadd, 1) := by decide +kernel
theorem i_54_21 : Jvm.ClassFile.decode (pm_bytes 54) 21 = .ok (.iaload, 1) := by decide +kernel
theorem i_54_22 : Jvm.ClassFile.decode (pm_bytes 54) 22 = .ok (.if_icmp .ge (27), 3) := by decide +kernel
theorem i_54_25 : Jvm.ClassFile.decode (pm_bytes 54) 25 = .ok (.aload_n 0, 1) := by decide +kernel
theorem i_54_26 : Jvm.ClassFile.decode (pm_bytes 54) 26 = .ok (.getfield 25, 3) := by decide +kernel
theorem i_54_29 : Jvm.ClassFile.decode (pm_bytes 54) 29 = .ok (.aload_n 0, 1) := by decide +kernel
theorem i_54_30 : Jvm.ClassFile.decode (pm_bytes 54) 30 = .ok (.getfield 36, 3) := by decide +kernel
theorem i_54_33 : Jvm.ClassFile.decode (pm_bytes 54) 33 = .ok (.getfield 88, 3) := by decide +kernel
theorem i_54_36 : Jvm.ClassFile.decode (pm_bytes 54) 36 = .ok (.iload_n 2, 1) := by decide +kernel
theorem i_54_37 : Jvm.ClassFile.decode (pm_bytes 54) 37 = .ok (.iaload, 1) := by decide +kernel
theorem i_54_38 : Jvm.ClassFile.decode (pm_bytes 54) 38 = .ok (.invokestatic 142, 3) := by decide +kernel
theorem i_54_41 : Jvm.ClassFile.decode (pm_bytes 54) 41 = .ok (.iconst 1, 1) := by decide +kernel
theorem i_54_42 : Jvm.ClassFile.decode (pm_bytes 54) 42 = .ok (.bastore, 1) := by decide +kernel
theorem i_54_43 : Jvm.ClassFile.decode (pm_bytes 54) 43 = .ok (.iinc 2 (1), 3) := by decide +kernel
theorem i_54_46 : Jvm.ClassFile.decode (pm_bytes 54) 46 = .ok (.goto (-36), 3) := by decide +kernel
theorem i_54_49 : Jvm.ClassFile.decode (pm_bytes 54) 49 = .ok (.return_, 1) := by decide +kernel
theorem f_55_12 : (pm_own 55, 12, 4, 3) ∈ pm_fld := f4_12
theorem f_55_25 : (pm_own 55, 25, 4, 6) ∈ pm_fld := f4_25
theorem f_55_29 : (pm_own 55, 29, 4, 7) ∈ pm_fld := f4_29
theorem f_55_120 : (pm_own 55, 120, 5, 4) ∈ pm_fld := f4_120
theorem f_55_123 : (pm_own 55, 123, 5, 2) ∈ pm_fld := f4_123
theorem f_55_145 : (pm_own 55, 145, 5, 1) ∈ pm_fld := f4_145
theorem f_55_157 : (pm_own 55, 157, 4, 8) ∈ pm_fld := f4_157
theorem k_55_142 : (pm_own 55, 142, 16, 1, (none : Option Nat)) ∈ pm_call := k4_142
theorem m_55 : pm_mL 55 = 4 := rfl
theorem r_55 : pm_ret 55 = 0 := rfl
theorem i_55_0 : Jvm.ClassFile.decode (pm_bytes 55) 0 = .ok (.aload_n 0, 1) := by decide +kernel
theorem i_55_1 : Jvm.ClassFile.decode (pm_bytes 55) 1 = .ok (.iconst 0, 1) := by decide +kernel
theorem i_55_2 : Jvm.ClassFile.decode (pm_bytes 55) 2 = .ok (.putfield 157, 3) := by decide +kernel
theorem i_55_5 : Jvm.ClassFile.decode (pm_bytes 55) 5 = .ok (.iconst 0, 1) := by decide +kernel
theorem i_55_6 : Jvm.ClassFile.decode (pm_bytes 55) 6 = .ok (.istore_n 2, 1) := by decide +kernel
theorem i_55_7 : Jvm.ClassFile.decode (pm_bytes 55) 7 = .ok (.iload_n 2, 1) := by decide +kernel
theorem i_55_8 : Jvm.ClassFile.decode (pm_bytes 55) 8 = .ok (.aload_n 0, 1) := by decide +kernel
theorem i_55_9 : Jvm.ClassFile.decode (pm_bytes 55) 9 = .ok (.getfield 12, 3) := by decide +kernel
theorem i_55_12 : Jvm.ClassFile.decode (pm_bytes 55) 12 = .ok (.getfield 120, 3) := by decide +kernel
theorem i_55_15 : Jvm.ClassFile.decode (pm_bytes 55) 15 = .ok (.if_icmp .ge (82), 3) := by decide +kernel
theorem i_55_18 : Jvm.ClassFile.decode (pm_bytes 55) 18 = .ok (.aload_n 0, 1) := by decide +kernel
theorem i_55_19 : Jvm.ClassFile.decode (pm_bytes 55) 19 = .ok (.getfield 12, 3) := by decide +kernel
theorem i_55_22 : Jvm.ClassFile.decode (pm_bytes 55) 22 = .ok (.getfield 123, 3) := by decide +kernel
theorem i_55_25 : Jvm.ClassFile.decode (pm_bytes 55) 25 = .ok (.iload_n 2, 1) := by decide +kernel
theorem i_55_26 : Jvm.ClassFile.decode (pm_bytes 55) 26 = .ok (.iaload, 1) := by decide +kernel
theorem i_55_27 : Jvm.ClassFile.decode (pm_bytes 55) 27 = .ok (.istore_n 3, 1) := by decide +kernel
theorem i_55_28 : Jvm.ClassFile.decode (pm_bytes 55) 28 = .ok (.aload_n 0, 1) := by decide +kernel
theorem i_55_29 : Jvm.ClassFile.decode (pm_bytes 55) 29 = .ok (.getfield 25, 3) := by decide +kernel
theorem i_55_32 : Jvm.ClassFile.decode (pm_bytes 55) 32 = .ok (.iload_n 3, 1) := by decide +kernel
theorem i_55_33 : Jvm.ClassFile.decode (pm_bytes 55) 33 = .ok (.invokestatic 142, 3) := by decide +kernel
theorem i_55_36 : Jvm.ClassFile.decode (pm_bytes 55) 36 = .ok (.baload, 1) := by decide +kernel
theorem i_55_37 : Jvm.ClassFile.decode (pm_bytes 55) 37 = .ok (.ifCond .eq (44), 3) := by decide +kernel
theorem i_55_40 : Jvm.ClassFile.decode (pm_bytes 55) 40 = .ok (.aload_n 0, 1) := by decide +kernel
theorem i_55_41 : Jvm.ClassFile.decode (pm_bytes 55) 41 = .ok (.getfield 12, 3) := by decide +kernel
theorem i_55_44 : Jvm.ClassFile.decode (pm_bytes 55) 44 = .ok (.getfield 145, 3) := by decide +kernel
theorem i_55_47 : Jvm.ClassFile.decode (pm_bytes 55) 47 = .ok (.iload_n 3, 1) := by decide +kernel
theorem i_55_48 : Jvm.ClassFile.decode (pm_bytes 55) 48 = .ok (.iaload, 1) := by decide +kernel
theorem i_55_49 : Jvm.ClassFile.decode (pm_bytes 55) 49 = .ok (.iconst (-1), 1) := by decide +kernel
theorem i_55_50 : Jvm.ClassFile.decode (pm_bytes 55) 50 = .ok (.if_icmp .eq (31), 3) := by decide +kernel
theorem i_55_53 : Jvm.ClassFile.decode (pm_bytes 55) 53 = .ok (.aload_n 0, 1) := by decide +kernel
theorem i_55_54 : Jvm.ClassFile.decode (pm_bytes 55) 54 = .ok (.getfield 29, 3) := by decide +kernel
theorem i_55_57 : Jvm.ClassFile.decode (pm_bytes 55) 57 = .ok (.aload_n 0, 1) := by decide +kernel
theorem i_55_58 : Jvm.ClassFile.decode (pm_bytes 55) 58 = .ok (.getfield 157, 3) := by decide +kernel
theorem i_55_61 : Jvm.ClassFile.decode (pm_bytes 55) 61 = .ok (.aload_n 0, 1) := by decide +kernel
theorem i_55_62 : Jvm.ClassFile.decode (pm_bytes 55) 62 = .ok (.getfield 12, 3) := by decide +kernel
theorem i_55_65 : Jvm.ClassFile.decode (pm_bytes 55) 65 = .ok (.getfield 145, 3) := by decide +kernel
theorem i_55_68 : Jvm.ClassFile.decode (pm_bytes 55) 68 = .ok (.iload_n 3, 1) := by decide +kernel
theorem i_55_69 : Jvm.ClassFile.decode (pm_bytes 55) 69 = .ok (.iaload, 1) := by decide +kernel
theorem i_55_70 : Jvm.ClassFile.decode (pm_bytes 55) 70 = .ok (.iastore, 1) := by decide +kernel
theorem i_55_71 : Jvm.ClassFile.decode (pm_bytes 55) 71 = .ok (.aload_n 0, 1) := by decide +kernel
theorem i_55_72 : Jvm.ClassFile.decode (pm_bytes 55) 72 = .ok (.dup, 1) := by decide +kernel
theorem i_55_73 : Jvm.ClassFile.decode (pm_bytes 55) 73 = .ok (.getfield 157, 3) := by decide +kernel
theorem i_55_76 : Jvm.ClassFile.decode (pm_bytes 55) 76 = .ok (.iconst 1, 1) := by decide +kernel
theorem i_55_77 : Jvm.ClassFile.decode (pm_bytes 55) 77 = .ok (.iadd, 1) := by decide +kernel
theorem i_55_78 : Jvm.ClassFile.decode (pm_bytes 55) 78 = .ok (.putfield 157, 3) := by decide +kernel
theorem i_55_81 : Jvm.ClassFile.decode (pm_bytes 55) 81 = .ok (.aload_n 0, 1) := by decide +kernel
theorem i_55_82 : Jvm.ClassFile.decode (pm_bytes 55) 82 = .ok (.getfield 25, 3) := by decide +kernel
theorem i_55_85 : Jvm.ClassFile.decode (pm_bytes 55) 85 = .ok (.iload_n 3, 1) := by decide +kernel
theorem i_55_86 : Jvm.ClassFile.decode (pm_bytes 55) 86 = .ok (.invokestatic 142, 3) := by decide +kernel
theorem i_55_89 : Jvm.ClassFile.decode (pm_bytes 55) 89 = .ok (.iconst 0, 1) := by decide +kernel
theorem i_55_90 : Jvm.ClassFile.decode (pm_bytes 55) 90 = .ok (.bastore, 1) := by decide +kernel
theorem i_55_91 : Jvm.ClassFile.decode (pm_bytes 55) 91 = .ok (.iinc 2 (1), 3) := by decide +kernel
theorem i_55_94 : Jvm.ClassFile.decode (pm_bytes 55) 94 = .ok (.goto (-87), 3) := by decide +kernel
theorem i_55_97 : Jvm.ClassFile.decode (pm_bytes 55) 97 = .ok (.aload_n 0, 1) := by decide +kernel
theorem i_55_98 : Jvm.ClassFile.decode (pm_bytes 55) 98 = .ok (.getfield 29, 3) := by decide +kernel
theorem i_55_101 : Jvm.ClassFile.decode (pm_bytes 55) 101 = .ok (.aload_n 0, 1) := by decide +kernel
theorem i_55_102 : Jvm.ClassFile.decode (pm_bytes 55) 102 = .ok (.getfield 157, 3) := by decide +kernel
theorem i_55_105 : Jvm.ClassFile.decode (pm_bytes 55) 105 = .ok (.iload_n 1, 1) := by decide +kernel
theorem i_55_106 : Jvm.ClassFile.decode (pm_bytes 55) 106 = .ok (.iastore, 1) := by decide +kernel
theorem i_55_107 : Jvm.ClassFile.decode (pm_bytes 55) 107 = .ok (.aload_n 0, 1) := by decide +kernel
theorem i_55_108 : Jvm.ClassFile.decode (pm_bytes 55) 108 = .ok (.dup, 1) := by decide +kernel
theorem i_55_109 : Jvm.ClassFile.decode (pm_bytes 55) 109 = .ok (.getfield 157, 3) := by decide +kernel
theorem i_55_112 : Jvm.ClassFile.decode (pm_bytes 55) 112 = .ok (.iconst 1, 1) := by decide +kernel
theorem i_55_113 : Jvm.ClassFile.decode (pm_bytes 55) 113 = .ok (.iadd, 1) := by decide +kernel
theorem i_55_114 : Jvm.ClassFile.decode (pm_bytes 55) 114 = .ok (.putfield 157, 3) := by decide +kernel
theorem i_55_117 : Jvm.ClassFile.decode (pm_bytes 55) 117 = .ok (.return_, 1) := by decide +kernel
theorem f_56_12 : (pm_own 56, 12, 4, 3) ∈ pm_fld := f4_12
theorem f_56_36 : (pm_own 56, 36, 4, 1) ∈ pm_fld := f4_36
theorem f_56_73 : (pm_own 56, 73, 4, 9) ∈ pm_fld := f4_73
theorem f_56_88 : (pm_own 56, 88, 2, 0) ∈ pm_fld := f4_88
theorem f_56_91 : (pm_own 56, 91, 2, 1) ∈ pm_fld := f4_91
theorem f_56_120 : (pm_own 56, 120, 5, 4) ∈ pm_fld := f4_120
theorem k_56_61 : (pm_own 56, 61, 36, 2, (some 2 : Option Nat)) ∈ pm_call := k4_61
theorem k_56_94 : (pm_own 56, 94, 52, 2, (some 4 : Option Nat)) ∈ pm_call := k4_94
theorem k_56_97 : (pm_own 56, 97, 15, 1, (none : Option Nat)) ∈ pm_call := k4_97
theorem k_56_104 : (pm_own 56, 104, 60, 3, (some 5 : Option Nat)) ∈ pm_call := k4_104
theorem k_56_166 : (pm_own 56, 166, 61, 2, (some 5 : Option Nat)) ∈ pm_call := k4_166
theorem m_56 : pm_mL 56 = 3 := rfl
theorem r_56 : pm_ret 56 = 0 := rfl
theorem i_56_0 : Jvm.ClassFile.decode (pm_bytes 56) 0 = .ok (.aload_n 0, 1) := by decide +kernel
theorem i_56_1 : Jvm.ClassFile.decode (pm_bytes 56) 1 = .ok (.getfield 36, 3) := by decide +kernel
theorem i_56_4 : Jvm.ClassFile.decode (pm_bytes 56) 4 = .ok (.getfield 91, 3) := by decide +kernel
theorem i_56_7 : Jvm.ClassFile.decode (pm_bytes 56) 7 = .ok (.iload_n 1, 1) := by decide +kernel
theorem i_56_8 : Jvm.ClassFile.decode (pm_bytes 56) 8 = .ok (.iaload, 1) := by decide +kernel
theorem i_56_9 : Jvm.ClassFile.decode (pm_bytes 56) 9 = .ok (.istore_n 2, 1) := by decide +kernel
theorem i_56_10 : Jvm.ClassFile.decode (pm_bytes 56) 10 = .ok (.aload_n 0, 1) := by decide +kernel
theorem i_56_11 : Jvm.ClassFile.decode (pm_bytes 56) 11 = .ok (.getfield 36, 3) := by decide +kernel
theorem i_56_14 : Jvm.ClassFile.decode (pm_bytes 56) 14 = .ok (.iload_n 1, 1) := by decide +kernel
theorem i_56_15 : Jvm.ClassFile.decode (pm_bytes 56) 15 = .ok (.invokevirtual 61, 3) := by decide +kernel
theorem i_56_18 : Jvm.ClassFile.decode (pm_bytes 56) 18 = .ok (.iconst 1, 1) := by decide +kernel
theorem i_56_19 : Jvm.ClassFile.decode (pm_bytes 56) 19 = .ok (.if_icmp .le (32), 3) := by decide +kernel
theorem i_56_22 : Jvm.ClassFile.decode (pm_bytes 56) 22 = .ok (.aload_n 0, 1) := by decide +kernel
theorem i_56_23 : Jvm.ClassFile.decode (pm_bytes 56) 23 = .ok (.getfield 12, 3) := by decide +kernel
theorem i_56_26 : Jvm.ClassFile.decode (pm_bytes 56) 26 = .ok (.aload_n 0, 1) := by decide +kernel
theorem i_56_27 : Jvm.ClassFile.decode (pm_bytes 56) 27 = .ok (.getfield 36, 3) := by decide +kernel
theorem i_56_30 : Jvm.ClassFile.decode (pm_bytes 56) 30 = .ok (.getfield 88, 3) := by decide +kernel
theorem i_56_33 : Jvm.ClassFile.decode (pm_bytes 56) 33 = .ok (.iload_n 2, 1) := by decide +kernel
theorem i_56_34 : Jvm.ClassFile.decode (pm_bytes 56) 34 = .ok (.iconst 1, 1) := by decide +kernel
theorem i_56_35 : Jvm.ClassFile.decode (pm_bytes 56) 35 = .ok (.iadd, 1) := by decide +kernel
theorem i_56_36 : Jvm.ClassFile.decode (pm_bytes 56) 36 = .ok (.iaload, 1) := by decide +kernel
theorem i_56_37 : Jvm.ClassFile.decode (pm_bytes 56) 37 = .ok (.invokestatic 97, 3) := by decide +kernel
theorem i_56_40 : Jvm.ClassFile.decode (pm_bytes 56) 40 = .ok (.invokevirtual 166, 3) := by decide +kernel
theorem i_56_43 : Jvm.ClassFile.decode (pm_bytes 56) 43 = .ok (.aload_n 0, 1) := by decide +kernel
theorem i_56_44 : Jvm.ClassFile.decode (pm_bytes 56) 44 = .ok (.iload_n 1, 1) := by decide +kernel
theorem i_56_45 : Jvm.ClassFile.decode (pm_bytes 56) 45 = .ok (.invokevirtual 94, 3) := by decide +kernel
theorem i_56_48 : Jvm.ClassFile.decode (pm_bytes 56) 48 = .ok (.goto (11), 3) := by decide +kernel
theorem i_56_51 : Jvm.ClassFile.decode (pm_bytes 56) 51 = .ok (.aload_n 0, 1) := by decide +kernel
theorem i_56_52 : Jvm.ClassFile.decode (pm_bytes 56) 52 = .ok (.getfield 12, 3) := by decide +kernel
theorem i_56_55 : Jvm.ClassFile.decode (pm_bytes 56) 55 = .ok (.iconst (-1), 1) := by decide +kernel
theorem i_56_56 : Jvm.ClassFile.decode (pm_bytes 56) 56 = .ok (.invokevirtual 166, 3) := by decide +kernel
theorem i_56_59 : Jvm.ClassFile.decode (pm_bytes 56) 59 = .ok (.aload_n 0, 1) := by decide +kernel
theorem i_56_60 : Jvm.ClassFile.decode (pm_bytes 56) 60 = .ok (.aload_n 0, 1) := by decide +kernel
theorem i_56_61 : Jvm.ClassFile.decode (pm_bytes 56) 61 = .ok (.getfield 12, 3) := by decide +kernel
theorem i_56_64 : Jvm.ClassFile.decode (pm_bytes 56) 64 = .ok (.getfield 120, 3) := by decide +kernel
theorem i_56_67 : Jvm.ClassFile.decode (pm_bytes 56) 67 = .ok (.putfield 73, 3) := by decide +kernel
theorem i_56_70 : Jvm.ClassFile.decode (pm_bytes 56) 70 = .ok (.aload_n 0, 1) := by decide +kernel
theorem i_56_71 : Jvm.ClassFile.decode (pm_bytes 56) 71 = .ok (.getfield 12, 3) := by decide +kernel
theorem i_56_74 : Jvm.ClassFile.decode (pm_bytes 56) 74 = .ok (.aload_n 0, 1) := by decide +kernel
theorem i_56_75 : Jvm.ClassFile.decode (pm_bytes 56) 75 = .ok (.getfield 36, 3) := by decide +kernel
theorem i_56_78 : Jvm.ClassFile.decode (pm_bytes 56) 78 = .ok (.getfield 88, 3) := by decide +kernel
theorem i_56_81 : Jvm.ClassFile.decode (pm_bytes 56) 81 = .ok (.iload_n 2, 1) := by decide +kernel
theorem i_56_82 : Jvm.ClassFile.decode (pm_bytes 56) 82 = .ok (.iaload, 1) := by decide +kernel
theorem i_56_83 : Jvm.ClassFile.decode (pm_bytes 56) 83 = .ok (.iload_n 1, 1) := by decide +kernel
theorem i_56_84 : Jvm.ClassFile.decode (pm_bytes 56) 84 = .ok (.invokevirtual 104, 3) := by decide +kernel
theorem i_56_87 : Jvm.ClassFile.decode (pm_bytes 56) 87 = .ok (.return_, 1) := by decide +kernel
theorem f_57_29 : (pm_own 57, 29, 5, 5) ∈ pm_fld := f5_29
theorem k_57_25 : (pm_own 57, 25, 62, 2, (some 5 : Option Nat)) ∈ pm_call := k5_25
theorem m_57 : pm_mL 57 = 1 := rfl
theorem r_57 : pm_ret 57 = 0 := rfl
theorem i_57_0 : Jvm.ClassFile.decode (pm_bytes 57) 0 = .ok (.aload_n 0, 1) := by decide +kernel
theorem i_57_1 : Jvm.ClassFile.decode (pm_bytes 57) 1 = .ok (.iconst 0, 1) := by decide +kernel
theorem i_57_2 : Jvm.ClassFile.decode (pm_bytes 57) 2 = .ok (.invokevirtual 25, 3) := by decide +kernel
theorem i_57_5 : Jvm.ClassFile.decode (pm_bytes 57) 5 = .ok (.aload_n 0, 1) := by decide +kernel
theorem i_57_6 : Jvm.ClassFile.decode (pm_bytes 57) 6 = .ok (.iconst 0, 1) := by decide +kernel
theorem i_57_7 : Jvm.ClassFile.decode (pm_bytes 57) 7 = .ok (.putfield 29, 3) := by decide +kernel
theorem i_57_10 : Jvm.ClassFile.decode (pm_bytes 57) 10 = .ok (.return_, 1) := by decide +kernel
theorem f_58_9 : (pm_own 58, 9, 5, 0) ∈ pm_fld := f5_9
theorem k_58_33 : (pm_own 58, 33, 15, 1, (none : Option Nat)) ∈ pm_call := k5_33
theorem m_58 : pm_mL 58 = 2 := rfl
theorem r_58 : pm_ret 58 = 2 := rfl
theorem i_58_0 : Jvm.ClassFile.decode (pm_bytes 58) 0 = .ok (.aload_n 0, 1) := by decide +kernel
theorem i_58_1 : Jvm.ClassFile.decode (pm_bytes 58) 1 = .ok (.getfield 9, 3) := by decide +kernel
theorem i_58_4 : Jvm.ClassFile.decode (pm_bytes 58) 4 = .ok (.iload_n 1, 1) := by decide +kernel
theorem i_58_5 : Jvm.ClassFile.decode (pm_bytes 58) 5 = .ok (.baload, 1) := by decide +kernel
theorem i_58_6 : Jvm.ClassFile.decode (pm_bytes 58) 6 = .ok (.ifCond .ne (19), 3) := by decide +kernel
theorem i_58_9 : Jvm.ClassFile.decode (pm_bytes 58) 9 = .ok (.aload_n 0, 1) := by decide +kernel
theorem i_58_10 : Jvm.ClassFile.decode (pm_bytes 58) 10 = .ok (.getfield 9, 3) := by decide +kernel
theorem i_58_13 : Jvm.ClassFile.decode (pm_bytes 58) 13 = .ok (.iload_n 1, 1) := by decide +kernel
theorem i_58_14 : Jvm.ClassFile.decode (pm_bytes 58) 14 = .ok (.invokestatic 33, 3) := by decide +kernel
theorem i_58_17 : Jvm.ClassFile.decode (pm_bytes 58) 17 = .ok (.baload, 1) := by decide +kernel
theorem i_58_18 : Jvm.ClassFile.decode (pm_bytes 58) 18 = .ok (.ifCond .ne (7), 3) := by decide +kernel
theorem i_58_21 : Jvm.ClassFile.decode (pm_bytes 58) 21 = .ok (.iconst 1, 1) := by decide +kernel
theorem i_58_22 : Jvm.ClassFile.decode (pm_bytes 58) 22 = .ok (.goto (4), 3) := by decide +kernel
theorem i_58_25 : Jvm.ClassFile.decode (pm_bytes 58) 25 = .ok (.iconst 0, 1) := by decide +kernel
theorem i_58_26 : Jvm.ClassFile.decode (pm_bytes 58) 26 = .ok (.ireturn, 1) := by decide +kernel
theorem f_59_22 : (pm_own 59, 22, 5, 3) ∈ pm_fld := f5_22
theorem f_59_29 : (pm_own 59, 29, 5, 5) ∈ pm_fld := f5_29
theorem f_59_37 : (pm_own 59, 37, 5, 4) ∈ pm_fld := f5_37
theorem k_59_40 : (pm_own 59, 40, 60, 3, (some 5 : Option Nat)) ∈ pm_call := k5_40
theorem m_59 : pm_mL 59 = 2 := rfl
theorem r_59 : pm_ret 59 = 0 := rfl
theorem i_59_0 : Jvm.ClassFile.decode (pm_bytes 59) 0 = .ok (.aload_n 0, 1) := by decide +kernel
theorem i_59_1 : Jvm.ClassFile.decode (pm_bytes 59) 1 = .ok (.getfield 22, 3) := by decide +kernel
theorem i_59_4 : Jvm.ClassFile.decode (pm_bytes 59) 4 = .ok (.aload_n 0, 1) := by decide +kernel
theorem i_59_5 : Jvm.ClassFile.decode (pm_bytes 59) 5 = .ok (.getfield 29, 3) := by decide +kernel
theorem i_59_8 : Jvm.ClassFile.decode (pm_bytes 59) 8 = .ok (.aload_n 0, 1) := by decide +kernel
theorem i_59_9 : Jvm.ClassFile.decode (pm_bytes 59) 9 = .ok (.getfield 37, 3) := by decide +kernel
theorem i_59_12 : Jvm.ClassFile.decode (pm_bytes 59) 12 = .ok (.iastore, 1) := by decide +kernel
theorem i_59_13 : Jvm.ClassFile.decode (pm_bytes 59) 13 = .ok (.aload_n 0, 1) := by decide +kernel
theorem i_59_14 : Jvm.ClassFile.decode (pm_bytes 59) 14 = .ok (.dup, 1) := by decide +kernel
theorem i_59_15 : Jvm.ClassFile.decode (pm_bytes 59) 15 = .ok (.getfield 29, 3) := by decide +kernel
theorem i_59_18 : Jvm.ClassFile.decode (pm_bytes 59) 18 = .ok (.iconst 1, 1) := by decide +kernel
theorem i_59_19 : Jvm.ClassFile.decode (pm_bytes 59) 19 = .ok (.iadd, 1) := by decide +kernel
theorem i_59_20 : Jvm.ClassFile.decode (pm_bytes 59) 20 = .ok (.putfield 29, 3) := by decide +kernel
theorem i_59_23 : Jvm.ClassFile.decode (pm_bytes 59) 23 = .ok (.aload_n 0, 1) := by decide +kernel
theorem i_59_24 : Jvm.ClassFile.decode (pm_bytes 59) 24 = .ok (.iload_n 1, 1) := by decide +kernel
theorem i_59_25 : Jvm.ClassFile.decode (pm_bytes 59) 25 = .ok (.iconst (-1), 1) := by decide +kernel
theorem i_59_26 : Jvm.ClassFile.decode (pm_bytes 59) 26 = .ok (.invokevirtual 40, 3) := by decide +kernel
theorem i_59_29 : Jvm.ClassFile.decode (pm_bytes 59) 29 = .ok (.return_, 1) := by decide +kernel
theorem f_60_9 : (pm_own 60, 9, 5, 0) ∈ pm_fld := f5_9
theorem f_60_15 : (pm_own 60, 15, 5, 1) ∈ pm_fld := f5_15
theorem f_60_19 : (pm_own 60, 19, 5, 2) ∈ pm_fld := f5_19
theorem f_60_37 : (pm_own 60, 37, 5, 4) ∈ pm_fld := f5_37
theorem m_60 : pm_mL 60 = 3 := rfl
theorem r_60 : pm_ret 60 = 0 := rfl
theorem i_60_0 : Jvm.ClassFile.decode (pm_bytes 60) 0 = .ok (.aload_n 0, 1) := by decide +kernel
theorem i_60_1 : Jvm.ClassFile.decode (pm_bytes 60) 1 = .ok (.getfield 9, 3) := by decide +kernel
theorem i_60_4 : Jvm.ClassFile.decode (pm_bytes 60) 4 = .ok (.iload_n 1, 1) := by decide +kernel
theorem i_60_5 : Jvm.ClassFile.decode (pm_bytes 60) 5 = .ok (.iconst 1, 1) := by decide +kernel
theorem i_60_6 : Jvm.ClassFile.decode (pm_bytes 60) 6 = .ok (.bastore, 1) := by decide +kernel
theorem i_60_7 : Jvm.ClassFile.decode (pm_bytes 60) 7 = .ok (.aload_n 0, 1) := by decide +kernel
theorem i_60_8 : Jvm.ClassFile.decode (pm_bytes 60) 8 = .ok (.getfield 15, 3) := by decide +kernel
theorem i_60_11 : Jvm.ClassFile.decode (pm_bytes 60) 11 = .ok (.iload_n 1, 1) := by decide +kernel
theorem i_60_12 : Jvm.ClassFile.decode (pm_bytes 60) 12 = .ok (.iload_n 2, 1) := by decide +kernel
theorem i_60_13 : Jvm.ClassFile.decode (pm_bytes 60) 13 = .ok (.iastore, 1) := by decide +kernel
theorem i_60_14 : Jvm.ClassFile.decode (pm_bytes 60) 14 = .ok (.aload_n 0, 1) := by decide +kernel
theorem i_60_15 : Jvm.ClassFile.decode (pm_bytes 60) 15 = .ok (.getfield 19, 3) := by decide +kernel
theorem i_60_18 : Jvm.ClassFile.decode (pm_bytes 60) 18 = .ok (.aload_n 0, 1) := by decide +kernel
theorem i_60_19 : Jvm.ClassFile.decode (pm_bytes 60) 19 = .ok (.getfield 37, 3) := by decide +kernel
theorem i_60_22 : Jvm.ClassFile.decode (pm_bytes 60) 22 = .ok (.iload_n 1, 1) := by decide +kernel
theorem i_60_23 : Jvm.ClassFile.decode (pm_bytes 60) 23 = .ok (.iastore, 1) := by decide +kernel
theorem i_60_24 : Jvm.ClassFile.decode (pm_bytes 60) 24 = .ok (.aload_n 0, 1) := by decide +kernel
theorem i_60_25 : Jvm.ClassFile.decode (pm_bytes 60) 25 = .ok (.dup, 1) := by decide +kernel
theorem i_60_26 : Jvm.ClassFile.decode (pm_bytes 60) 26 = .ok (.getfield 37, 3) := by decide +kernel
theorem i_60_29 : Jvm.ClassFile.decode (pm_bytes 60) 29 = .ok (.iconst 1, 1) := by decide +kernel
theorem i_60_30 : Jvm.ClassFile.decode (pm_bytes 60) 30 = .ok (.iadd, 1) := by decide +kernel
theorem i_60_31 : Jvm.ClassFile.decode (pm_bytes 60) 31 = .ok (.putfield 37, 3) := by decide +kernel
theorem i_60_34 : Jvm.ClassFile.decode (pm_bytes 60) 34 = .ok (.return_, 1) := by decide +kernel
theorem f_61_19 : (pm_own 61, 19, 5, 2) ∈ pm_fld := f5_19
theorem f_61_22 : (pm_own 61, 22, 5, 3) ∈ pm_fld := f5_22
theorem f_61_29 : (pm_own 61, 29, 5, 5) ∈ pm_fld := f5_29
theorem f_61_37 : (pm_own 61, 37, 5, 4) ∈ pm_fld := f5_37
theorem k_61_25 : (pm_own 61, 25, 62, 2, (some 5 : Option Nat)) ∈ pm_call := k5_25
theorem m_61 : pm_mL 61 = 3 := rfl
theorem r_61 : pm_ret 61 = 0 := rfl
theorem i_61_0 : Jvm.ClassFile.decode (pm_bytes 61) 0 = .ok (.aload_n 0, 1) := by decide +kernel
theorem i_61_1 : Jvm.ClassFile.decode (pm_bytes 61) 1 = .ok (.getfield 37, 3) := by decide +kernel
theorem i_61_4 : Jvm.ClassFile.decode (pm_bytes 61) 4 = .ok (.istore_n 2, 1) := by decide +kernel
theorem i_61_5 : Jvm.ClassFile.decode (pm_bytes 61) 5 = .ok (.aload_n 0, 1) := by decide +kernel
theorem i_61_6 : Jvm.ClassFile.decode (pm_bytes 61) 6 = .ok (.getfield 29, 3) := by decide +kernel
theorem i_61_9 : Jvm.ClassFile.decode (pm_bytes 61) 9 = .ok (.ifCond .le (46), 3) := by decide +kernel
theorem i_61_12 : Jvm.ClassFile.decode (pm_bytes 61) 12 = .ok (.aload_n 0, 1) := by decide +kernel
theorem i_61_13 : Jvm.ClassFile.decode (pm_bytes 61) 13 = .ok (.getfield 19, 3) := by decide +kernel
theorem i_61_16 : Jvm.ClassFile.decode (pm_bytes 61) 16 = .ok (.aload_n 0, 1) := by decide +kernel
theorem i_61_17 : Jvm.ClassFile.decode (pm_bytes 61) 17 = .ok (.getfield 22, 3) := by decide +kernel
theorem i_61_20 : Jvm.ClassFile.decode (pm_bytes 61) 20 = .ok (.aload_n 0, 1) := by decide +kernel
theorem i_61_21 : Jvm.ClassFile.decode (pm_bytes 61) 21 = .ok (.getfield 29, 3) := by decide +kernel
theorem i_61_24 : Jvm.ClassFile.decode (pm_bytes 61) 24 = .ok (.iconst 1, 1) := by decide +kernel
theorem i_61_25 : Jvm.ClassFile.decode (pm_bytes 61) 25 = .ok (.isub, 1) := by decide +kernel
theorem i_61_26 : Jvm.ClassFile.decode (pm_bytes 61) 26 = .ok (.iaload, 1) := by decide +kernel
theorem i_61_27 : Jvm.ClassFile.decode (pm_bytes 61) 27 = .ok (.iaload, 1) := by decide +kernel
theorem i_61_28 : Jvm.ClassFile.decode (pm_bytes 61) 28 = .ok (.iload_n 1, 1) := by decide +kernel
theorem i_61_29 : Jvm.ClassFile.decode (pm_bytes 61) 29 = .ok (.if_icmp .eq (26), 3) := by decide +kernel
theorem i_61_32 : Jvm.ClassFile.decode (pm_bytes 61) 32 = .ok (.aload_n 0, 1) := by decide +kernel
theorem i_61_33 : Jvm.ClassFile.decode (pm_bytes 61) 33 = .ok (.dup, 1) := by decide +kernel
theorem i_61_34 : Jvm.ClassFile.decode (pm_bytes 61) 34 = .ok (.getfield 29, 3) := by decide +kernel
theorem i_61_37 : Jvm.ClassFile.decode (pm_bytes 61) 37 = .ok (.iconst 1, 1) := by decide +kernel
theorem i_61_38 : Jvm.ClassFile.decode (pm_bytes 61) 38 = .ok (.isub, 1) := by decide +kernel
theorem i_61_39 : Jvm.ClassFile.decode (pm_bytes 61) 39 = .ok (.putfield 29, 3) := by decide +kernel
theorem i_61_42 : Jvm.ClassFile.decode (pm_bytes 61) 42 = .ok (.aload_n 0, 1) := by decide +kernel
theorem i_61_43 : Jvm.ClassFile.decode (pm_bytes 61) 43 = .ok (.getfield 22, 3) := by decide +kernel
theorem i_61_46 : Jvm.ClassFile.decode (pm_bytes 61) 46 = .ok (.aload_n 0, 1) := by decide +kernel
theorem i_61_47 : Jvm.ClassFile.decode (pm_bytes 61) 47 = .ok (.getfield 29, 3) := by decide +kernel
theorem i_61_50 : Jvm.ClassFile.decode (pm_bytes 61) 50 = .ok (.iaload, 1) := by decide +kernel
theorem i_61_51 : Jvm.ClassFile.decode (pm_bytes 61) 51 = .ok (.istore_n 2, 1) := by decide +kernel
theorem i_61_52 : Jvm.ClassFile.decode (pm_bytes 61) 52 = .ok (.goto (-47), 3) := by decide +kernel
theorem i_61_55 : Jvm.ClassFile.decode (pm_bytes 61) 55 = .ok (.aload_n 0, 1) := by decide +kernel
theorem i_61_56 : Jvm.ClassFile.decode (pm_bytes 61) 56 = .ok (.iload_n 2, 1) := by decide +kernel
theorem i_61_57 : Jvm.ClassFile.decode (pm_bytes 61) 57 = .ok (.invokevirtual 25, 3) := by decide +kernel
theorem i_61_60 : Jvm.ClassFile.decode (pm_bytes 61) 60 = .ok (.return_, 1) := by decide +kernel
theorem f_62_9 : (pm_own 62, 9, 5, 0) ∈ pm_fld := f5_9
theorem f_62_19 : (pm_own 62, 19, 5, 2) ∈ pm_fld := f5_19
theorem f_62_37 : (pm_own 62, 37, 5, 4) ∈ pm_fld := f5_37
theorem m_62 : pm_mL 62 = 3 := rfl
theorem r_62 : pm_ret 62 = 0 := rfl
theorem i_62_0 : Jvm.ClassFile.decode (pm_bytes 62) 0 = .ok (.iload_n 1, 1) := by decide +kernel
theorem i_62_1 : Jvm.ClassFile.decode (pm_bytes 62) 1 = .ok (.istore_n 2, 1) := by decide +kernel
theorem i_62_2 : Jvm.ClassFile.decode (pm_bytes 62) 2 = .ok (.iload_n 2, 1) := by decide +kernel
theorem i_62_3 : Jvm.ClassFile.decode (pm_bytes 62) 3 = .ok (.aload_n 0, 1) := by decide +kernel
theorem i_62_4 : Jvm.ClassFile.decode (pm_bytes 62) 4 = .ok (.getfield 37, 3) := by decide +kernel
theorem i_62_7 : Jvm.ClassFile.decode (pm_bytes 62) 7 = .ok (.if_icmp .ge (21), 3) := by decide +kernel
theorem i_62_10 : Jvm.ClassFile.decode (pm_bytes 62) 10 = .ok (.aload_n 0, 1) := by decide +kernel
theorem i_62_11 : Jvm.ClassFile.decode (pm_bytes 62) 11 = .ok (.getfield 9, 3) := by decide +kernel
theorem i_62_14 : Jvm.ClassFile.decode (pm_bytes 62) 14 = .ok (.aload_n 0, 1) := by decide +kernel
theorem i_62_15 : Jvm.ClassFile.decode (pm_bytes 62) 15 = .ok (.getfield 19, 3) := by decide +kernel
theorem i_62_18 : Jvm.ClassFile.decode (pm_bytes 62) 18 = .ok (.iload_n 2, 1) := by decide +kernel
theorem i_62_19 : Jvm.ClassFile.decode (pm_bytes 62) 19 = .ok (.iaload, 1) := by decide +kernel
theorem i_62_20 : Jvm.ClassFile.decode (pm_bytes 62) 20 = .ok (.iconst 0, 1) := by decide +kernel
theorem i_62_21 : Jvm.ClassFile.decode (pm_bytes 62) 21 = .ok (.bastore, 1) := by decide +kernel
theorem i_62_22 : Jvm.ClassFile.decode (pm_bytes 62) 22 = .ok (.iinc 2 (1), 3) := by decide +kernel
theorem i_62_25 : Jvm.ClassFile.decode (pm_bytes 62) 25 = .ok (.goto (-23), 3) := by decide +kernel
theorem i_62_28 : Jvm.ClassFile.decode (pm_bytes 62) 28 = .ok (.aload_n 0, 1) := by decide +kernel
theorem i_62_29 : Jvm.ClassFile.decode (pm_bytes 62) 29 = .ok (.iload_n 1, 1) := by decide +kernel
theorem i_62_30 : Jvm.ClassFile.decode (pm_bytes 62) 30 = .ok (.putfield 37, 3) := by decide +kernel
theorem i_62_33 : Jvm.ClassFile.decode (pm_bytes 62) 33 = .ok (.return_, 1) := by decide +kernel
end
section
/-! fetch rows of the methods 63 to 79, laid by wip/whole/gen/fetch.py -/
theorem f_63_7 : (pm_own 63, 7, 6, 0) ∈ pm_fld := f6_7
theorem m_63 : pm_mL 63 = 1 := rfl
theorem r_63 : pm_ret 63 = 1 := rfl
theorem i_63_0 : Jvm.ClassFile.decode (pm_bytes 63) 0 = .ok (.aload_n 0, 1) := by decide +kernel
theorem i_63_1 : Jvm.ClassFile.decode (pm_bytes 63) 1 = .ok (.getfield 7, 3) := by decide +kernel
theorem i_63_4 : Jvm.ClassFile.decode (pm_bytes 63) 4 = .ok (.ireturn, 1) := by decide +kernel
theorem f_64_7 : (pm_own 64, 7, 6, 0) ∈ pm_fld := f6_7
theorem m_64 : pm_mL 64 = 3 := rfl
theorem r_64 : pm_ret 64 = 2 := rfl
theorem i_64_0 : Jvm.ClassFile.decode (pm_bytes 64) 0 = .ok (.iload_n 2, 1) := by decide +kernel
theorem i_64_1 : Jvm.ClassFile.decode (pm_bytes 64) 1 = .ok (.ifCond .eq (8), 3) := by decide +kernel
theorem i_64_4 : Jvm.ClassFile.decode (pm_bytes 64) 4 = .ok (.aload_n 0, 1) := by decide +kernel
theorem i_64_5 : Jvm.ClassFile.decode (pm_bytes 64) 5 = .ok (.iload_n 1, 1) := by decide +kernel
theorem i_64_6 : Jvm.ClassFile.decode (pm_bytes 64) 6 = .ok (.putfield 7, 3) := by decide +kernel
theorem i_64_9 : Jvm.ClassFile.decode (pm_bytes 64) 9 = .ok (.iload_n 2, 1) := by decide +kernel
theorem i_64_10 : Jvm.ClassFile.decode (pm_bytes 64) 10 = .ok (.ireturn, 1) := by decide +kernel
theorem f_65_13 : (pm_own 65, 13, 6, 1) ∈ pm_fld := f6_13
theorem m_65 : pm_mL 65 = 2 := rfl
theorem r_65 : pm_ret 65 = 2 := rfl
theorem i_65_0 : Jvm.ClassFile.decode (pm_bytes 65) 0 = .ok (.iload_n 1, 1) := by decide +kernel
theorem i_65_1 : Jvm.ClassFile.decode (pm_bytes 65) 1 = .ok (.ifCond .lt (11), 3) := by decide +kernel
theorem i_65_4 : Jvm.ClassFile.decode (pm_bytes 65) 4 = .ok (.iload_n 1, 1) := by decide +kernel
theorem i_65_5 : Jvm.ClassFile.decode (pm_bytes 65) 5 = .ok (.aload_n 0, 1) := by decide +kernel
theorem i_65_6 : Jvm.ClassFile.decode (pm_bytes 65) 6 = .ok (.getfield 13, 3) := by decide +kernel
theorem i_65_9 : Jvm.ClassFile.decode (pm_bytes 65) 9 = .ok (.if_icmp .lt (7), 3) := by decide +kernel
theorem i_65_12 : Jvm.ClassFile.decode (pm_bytes 65) 12 = .ok (.iconst 1, 1) := by decide +kernel
theorem i_65_13 : Jvm.ClassFile.decode (pm_bytes 65) 13 = .ok (.goto (4), 3) := by decide +kernel
theorem i_65_16 : Jvm.ClassFile.decode (pm_bytes 65) 16 = .ok (.iconst 0, 1) := by decide +kernel
theorem i_65_17 : Jvm.ClassFile.decode (pm_bytes 65) 17 = .ok (.ireturn, 1) := by decide +kernel
theorem f_66_13 : (pm_own 66, 13, 6, 1) ∈ pm_fld := f6_13
theorem f_66_22 : (pm_own 66, 22, 6, 4) ∈ pm_fld := f6_22
theorem f_66_26 : (pm_own 66, 26, 6, 5) ∈ pm_fld := f6_26
theorem f_66_29 : (pm_own 66, 29, 6, 6) ∈ pm_fld := f6_29
theorem f_66_32 : (pm_own 66, 32, 6, 7) ∈ pm_fld := f6_32
theorem m_66 : pm_mL 66 = 5 := rfl
theorem r_66 : pm_ret 66 = 1 := rfl
theorem i_66_0 : Jvm.ClassFile.decode (pm_bytes 66) 0 = .ok (.aload_n 0, 1) := by decide +kernel
theorem i_66_1 : Jvm.ClassFile.decode (pm_bytes 66) 1 = .ok (.getfield 22, 3) := by decide +kernel
theorem i_66_4 : Jvm.ClassFile.decode (pm_bytes 66) 4 = .ok (.aload_n 0, 1) := by decide +kernel
theorem i_66_5 : Jvm.ClassFile.decode (pm_bytes 66) 5 = .ok (.getfield 13, 3) := by decide +kernel
theorem i_66_8 : Jvm.ClassFile.decode (pm_bytes 66) 8 = .ok (.iload_n 1, 1) := by decide +kernel
theorem i_66_9 : Jvm.ClassFile.decode (pm_bytes 66) 9 = .ok (.iastore, 1) := by decide +kernel
theorem i_66_10 : Jvm.ClassFile.decode (pm_bytes 66) 10 = .ok (.aload_n 0, 1) := by decide +kernel
theorem i_66_11 : Jvm.ClassFile.decode (pm_bytes 66) 11 = .ok (.getfield 26, 3) := by decide +kernel
theorem i_66_14 : Jvm.ClassFile.decode (pm_bytes 66) 14 = .ok (.aload_n 0, 1) := by decide +kernel
theorem i_66_15 : Jvm.ClassFile.decode (pm_bytes 66) 15 = .ok (.getfield 13, 3) := by decide +kernel
theorem i_66_18 : Jvm.ClassFile.decode (pm_bytes 66) 18 = .ok (.iload_n 2, 1) := by decide +kernel
theorem i_66_19 : Jvm.ClassFile.decode (pm_bytes 66) 19 = .ok (.iastore, 1) := by decide +kernel
theorem i_66_20 : Jvm.ClassFile.decode (pm_bytes 66) 20 = .ok (.aload_n 0, 1) := by decide +kernel
theorem i_66_21 : Jvm.ClassFile.decode (pm_bytes 66) 21 = .ok (.getfield 29, 3) := by decide +kernel
theorem i_66_24 : Jvm.ClassFile.decode (pm_bytes 66) 24 = .ok (.aload_n 0, 1) := by decide +kernel
theorem i_66_25 : Jvm.ClassFile.decode (pm_bytes 66) 25 = .ok (.getfield 13, 3) := by decide +kernel
theorem i_66_28 : Jvm.ClassFile.decode (pm_bytes 66) 28 = .ok (.iload_n 3, 1) := by decide +kernel
theorem i_66_29 : Jvm.ClassFile.decode (pm_bytes 66) 29 = .ok (.iastore, 1) := by decide +kernel
theorem i_66_30 : Jvm.ClassFile.decode (pm_bytes 66) 30 = .ok (.aload_n 0, 1) := by decide +kernel
theorem i_66_31 : Jvm.ClassFile.decode (pm_bytes 66) 31 = .ok (.getfield 32, 3) := by decide +kernel
theorem i_66_34 : Jvm.ClassFile.decode (pm_bytes 66) 34 = .ok (.aload_n 0, 1) := by decide +kernel
theorem i_66_35 : Jvm.ClassFile.decode (pm_bytes 66) 35 = .ok (.getfield 13, 3) := by decide +kernel
theorem i_66_38 : Jvm.ClassFile.decode (pm_bytes 66) 38 = .ok (.iload 4, 2) := by decide +kernel
theorem i_66_40 : Jvm.ClassFile.decode (pm_bytes 66) 40 = .ok (.iastore, 1) := by decide +kernel
theorem i_66_41 : Jvm.ClassFile.decode (pm_bytes 66) 41 = .ok (.aload_n 0, 1) := by decide +kernel
theorem i_66_42 : Jvm.ClassFile.decode (pm_bytes 66) 42 = .ok (.dup, 1) := by decide +kernel
theorem i_66_43 : Jvm.ClassFile.decode (pm_bytes 66) 43 = .ok (.getfield 13, 3) := by decide +kernel
theorem i_66_46 : Jvm.ClassFile.decode (pm_bytes 66) 46 = .ok (.dup_x1, 1) := by decide +kernel
theorem i_66_47 : Jvm.ClassFile.decode (pm_bytes 66) 47 = .ok (.iconst 1, 1) := by decide +kernel
theorem i_66_48 : Jvm.ClassFile.decode (pm_bytes 66) 48 = .ok (.iadd, 1) := by decide +kernel
theorem i_66_49 : Jvm.ClassFile.decode (pm_bytes 66) 49 = .ok (.putfield 13, 3) := by decide +kernel
theorem i_66_52 : Jvm.ClassFile.decode (pm_bytes 66) 52 = .ok (.ireturn, 1) := by decide +kernel
theorem f_67_7 : (pm_own 67, 7, 6, 0) ∈ pm_fld := f6_7
theorem f_67_13 : (pm_own 67, 13, 6, 1) ∈ pm_fld := f6_13
theorem f_67_16 : (pm_own 67, 16, 6, 2) ∈ pm_fld := f6_16
theorem f_67_38 : (pm_own 67, 38, 6, 9) ∈ pm_fld := f6_38
theorem k_67_51 : (pm_own 67, 51, 64, 3, (some 6 : Option Nat)) ∈ pm_call := k6_51
theorem k_67_55 : (pm_own 67, 55, 66, 5, (some 6 : Option Nat)) ∈ pm_call := k6_55
theorem m_67 : pm_mL 67 = 1 := rfl
theorem r_67 : pm_ret 67 = 1 := rfl
theorem i_67_0 : Jvm.ClassFile.decode (pm_bytes 67) 0 = .ok (.aload_n 0, 1) := by decide +kernel
theorem i_67_1 : Jvm.ClassFile.decode (pm_bytes 67) 1 = .ok (.iconst 0, 1) := by decide +kernel
theorem i_67_2 : Jvm.ClassFile.decode (pm_bytes 67) 2 = .ok (.putfield 7, 3) := by decide +kernel
theorem i_67_5 : Jvm.ClassFile.decode (pm_bytes 67) 5 = .ok (.aload_n 0, 1) := by decide +kernel
theorem i_67_6 : Jvm.ClassFile.decode (pm_bytes 67) 6 = .ok (.iconst 1, 1) := by decide +kernel
theorem i_67_7 : Jvm.ClassFile.decode (pm_bytes 67) 7 = .ok (.aload_n 0, 1) := by decide +kernel
theorem i_67_8 : Jvm.ClassFile.decode (pm_bytes 67) 8 = .ok (.getfield 16, 3) := by decide +kernel
theorem i_67_11 : Jvm.ClassFile.decode (pm_bytes 67) 11 = .ok (.bipush (12), 2) := by decide +kernel
theorem i_67_13 : Jvm.ClassFile.decode (pm_bytes 67) 13 = .ok (.if_icmp .eq (13), 3) := by decide +kernel
theorem i_67_16 : Jvm.ClassFile.decode (pm_bytes 67) 16 = .ok (.aload_n 0, 1) := by decide +kernel
theorem i_67_17 : Jvm.ClassFile.decode (pm_bytes 67) 17 = .ok (.getfield 13, 3) := by decide +kernel
theorem i_67_20 : Jvm.ClassFile.decode (pm_bytes 67) 20 = .ok (.sipush (2000), 3) := by decide +kernel
theorem i_67_23 : Jvm.ClassFile.decode (pm_bytes 67) 23 = .ok (.if_icmp .ne (7), 3) := by decide +kernel
theorem i_67_26 : Jvm.ClassFile.decode (pm_bytes 67) 26 = .ok (.iconst 1, 1) := by decide +kernel
theorem i_67_27 : Jvm.ClassFile.decode (pm_bytes 67) 27 = .ok (.goto (4), 3) := by decide +kernel
theorem i_67_30 : Jvm.ClassFile.decode (pm_bytes 67) 30 = .ok (.iconst 0, 1) := by decide +kernel
theorem i_67_31 : Jvm.ClassFile.decode (pm_bytes 67) 31 = .ok (.invokevirtual 51, 3) := by decide +kernel
theorem i_67_34 : Jvm.ClassFile.decode (pm_bytes 67) 34 = .ok (.ifCond .eq (5), 3) := by decide +kernel
theorem i_67_37 : Jvm.ClassFile.decode (pm_bytes 67) 37 = .ok (.iconst 0, 1) := by decide +kernel
theorem i_67_38 : Jvm.ClassFile.decode (pm_bytes 67) 38 = .ok (.ireturn, 1) := by decide +kernel
theorem i_67_39 : Jvm.ClassFile.decode (pm_bytes 67) 39 = .ok (.aload_n 0, 1) := by decide +kernel
theorem i_67_40 : Jvm.ClassFile.decode (pm_bytes 67) 40 = .ok (.getfield 38, 3) := by decide +kernel
theorem i_67_43 : Jvm.ClassFile.decode (pm_bytes 67) 43 = .ok (.aload_n 0, 1) := by decide +kernel
theorem i_67_44 : Jvm.ClassFile.decode (pm_bytes 67) 44 = .ok (.getfield 16, 3) := by decide +kernel
theorem i_67_47 : Jvm.ClassFile.decode (pm_bytes 67) 47 = .ok (.iconst 0, 1) := by decide +kernel
theorem i_67_48 : Jvm.ClassFile.decode (pm_bytes 67) 48 = .ok (.bastore, 1) := by decide +kernel
theorem i_67_49 : Jvm.ClassFile.decode (pm_bytes 67) 49 = .ok (.aload_n 0, 1) := by decide +kernel
theorem i_67_50 : Jvm.ClassFile.decode (pm_bytes 67) 50 = .ok (.iconst 1, 1) := by decide +kernel
theorem i_67_51 : Jvm.ClassFile.decode (pm_bytes 67) 51 = .ok (.aload_n 0, 1) := by decide +kernel
theorem i_67_52 : Jvm.ClassFile.decode (pm_bytes 67) 52 = .ok (.dup, 1) := by decide +kernel
theorem i_67_53 : Jvm.ClassFile.decode (pm_bytes 67) 53 = .ok (.getfield 16, 3) := by decide +kernel
theorem i_67_56 : Jvm.ClassFile.decode (pm_bytes 67) 56 = .ok (.dup_x1, 1) := by decide +kernel
theorem i_67_57 : Jvm.ClassFile.decode (pm_bytes 67) 57 = .ok (.iconst 1, 1) := by decide +kernel
theorem i_67_58 : Jvm.ClassFile.decode (pm_bytes 67) 58 = .ok (.iadd, 1) := by decide +kernel
theorem i_67_59 : Jvm.ClassFile.decode (pm_bytes 67) 59 = .ok (.putfield 16, 3) := by decide +kernel
theorem i_67_62 : Jvm.ClassFile.decode (pm_bytes 67) 62 = .ok (.iconst 0, 1) := by decide +kernel
theorem i_67_63 : Jvm.ClassFile.decode (pm_bytes 67) 63 = .ok (.iconst 0, 1) := by decide +kernel
theorem i_67_64 : Jvm.ClassFile.decode (pm_bytes 67) 64 = .ok (.invokevirtual 55, 3) := by decide +kernel
theorem i_67_67 : Jvm.ClassFile.decode (pm_bytes 67) 67 = .ok (.ireturn, 1) := by decide +kernel
theorem f_68_7 : (pm_own 68, 7, 6, 0) ∈ pm_fld := f6_7
theorem f_68_13 : (pm_own 68, 13, 6, 1) ∈ pm_fld := f6_13
theorem k_68_51 : (pm_own 68, 51, 64, 3, (some 6 : Option Nat)) ∈ pm_call := k6_51
theorem k_68_55 : (pm_own 68, 55, 66, 5, (some 6 : Option Nat)) ∈ pm_call := k6_55
theorem k_68_59 : (pm_own 68, 59, 65, 2, (some 6 : Option Nat)) ∈ pm_call := k6_59
theorem m_68 : pm_mL 68 = 2 := rfl
theorem r_68 : pm_ret 68 = 1 := rfl
theorem i_68_0 : Jvm.ClassFile.decode (pm_bytes 68) 0 = .ok (.aload_n 0, 1) := by decide +kernel
theorem i_68_1 : Jvm.ClassFile.decode (pm_bytes 68) 1 = .ok (.iconst 0, 1) := by decide +kernel
theorem i_68_2 : Jvm.ClassFile.decode (pm_bytes 68) 2 = .ok (.putfield 7, 3) := by decide +kernel
theorem i_68_5 : Jvm.ClassFile.decode (pm_bytes 68) 5 = .ok (.aload_n 0, 1) := by decide +kernel
theorem i_68_6 : Jvm.ClassFile.decode (pm_bytes 68) 6 = .ok (.iconst 1, 1) := by decide +kernel
theorem i_68_7 : Jvm.ClassFile.decode (pm_bytes 68) 7 = .ok (.aload_n 0, 1) := by decide +kernel
theorem i_68_8 : Jvm.ClassFile.decode (pm_bytes 68) 8 = .ok (.iload_n 1, 1) := by decide +kernel
theorem i_68_9 : Jvm.ClassFile.decode (pm_bytes 68) 9 = .ok (.invokevirtual 59, 3) := by decide +kernel
theorem i_68_12 : Jvm.ClassFile.decode (pm_bytes 68) 12 = .ok (.invokevirtual 51, 3) := by decide +kernel
theorem i_68_15 : Jvm.ClassFile.decode (pm_bytes 68) 15 = .ok (.ifCond .ne (26), 3) := by decide +kernel
theorem i_68_18 : Jvm.ClassFile.decode (pm_bytes 68) 18 = .ok (.aload_n 0, 1) := by decide +kernel
theorem i_68_19 : Jvm.ClassFile.decode (pm_bytes 68) 19 = .ok (.iconst 2, 1) := by decide +kernel
theorem i_68_20 : Jvm.ClassFile.decode (pm_bytes 68) 20 = .ok (.aload_n 0, 1) := by decide +kernel
theorem i_68_21 : Jvm.ClassFile.decode (pm_bytes 68) 21 = .ok (.getfield 13, 3) := by decide +kernel
theorem i_68_24 : Jvm.ClassFile.decode (pm_bytes 68) 24 = .ok (.sipush (2000), 3) := by decide +kernel
theorem i_68_27 : Jvm.ClassFile.decode (pm_bytes 68) 27 = .ok (.if_icmp .ne (7), 3) := by decide +kernel
theorem i_68_30 : Jvm.ClassFile.decode (pm_bytes 68) 30 = .ok (.iconst 1, 1) := by decide +kernel
theorem i_68_31 : Jvm.ClassFile.decode (pm_bytes 68) 31 = .ok (.goto (4), 3) := by decide +kernel
theorem i_68_34 : Jvm.ClassFile.decode (pm_bytes 68) 34 = .ok (.iconst 0, 1) := by decide +kernel
theorem i_68_35 : Jvm.ClassFile.decode (pm_bytes 68) 35 = .ok (.invokevirtual 51, 3) := by decide +kernel
theorem i_68_38 : Jvm.ClassFile.decode (pm_bytes 68) 38 = .ok (.ifCond .eq (5), 3) := by decide +kernel
theorem i_68_41 : Jvm.ClassFile.decode (pm_bytes 68) 41 = .ok (.iconst 0, 1) := by decide +kernel
theorem i_68_42 : Jvm.ClassFile.decode (pm_bytes 68) 42 = .ok (.ireturn, 1) := by decide +kernel
theorem i_68_43 : Jvm.ClassFile.decode (pm_bytes 68) 43 = .ok (.aload_n 0, 1) := by decide +kernel
theorem i_68_44 : Jvm.ClassFile.decode (pm_bytes 68) 44 = .ok (.iconst 2, 1) := by decide +kernel
theorem i_68_45 : Jvm.ClassFile.decode (pm_bytes 68) 45 = .ok (.iload_n 1, 1) := by decide +kernel
theorem i_68_46 : Jvm.ClassFile.decode (pm_bytes 68) 46 = .ok (.iconst 0, 1) := by decide +kernel
theorem i_68_47 : Jvm.ClassFile.decode (pm_bytes 68) 47 = .ok (.iconst 0, 1) := by decide +kernel
theorem i_68_48 : Jvm.ClassFile.decode (pm_bytes 68) 48 = .ok (.invokevirtual 55, 3) := by decide +kernel
theorem i_68_51 : Jvm.ClassFile.decode (pm_bytes 68) 51 = .ok (.ireturn, 1) := by decide +kernel
theorem f_69_7 : (pm_own 69, 7, 6, 0) ∈ pm_fld := f6_7
theorem f_69_13 : (pm_own 69, 13, 6, 1) ∈ pm_fld := f6_13
theorem k_69_51 : (pm_own 69, 51, 64, 3, (some 6 : Option Nat)) ∈ pm_call := k6_51
theorem k_69_55 : (pm_own 69, 55, 66, 5, (some 6 : Option Nat)) ∈ pm_call := k6_55
theorem k_69_59 : (pm_own 69, 59, 65, 2, (some 6 : Option Nat)) ∈ pm_call := k6_59
theorem m_69 : pm_mL 69 = 4 := rfl
theorem r_69 : pm_ret 69 = 1 := rfl
theorem i_69_0 : Jvm.ClassFile.decode (pm_bytes 69) 0 = .ok (.aload_n 0, 1) := by decide +kernel
theorem i_69_1 : Jvm.ClassFile.decode (pm_bytes 69) 1 = .ok (.iconst 0, 1) := by decide +kernel
theorem i_69_2 : Jvm.ClassFile.decode (pm_bytes 69) 2 = .ok (.putfield 7, 3) := by decide +kernel
theorem i_69_5 : Jvm.ClassFile.decode (pm_bytes 69) 5 = .ok (.aload_n 0, 1) := by decide +kernel
theorem i_69_6 : Jvm.ClassFile.decode (pm_bytes 69) 6 = .ok (.iconst 1, 1) := by decide +kernel
theorem i_69_7 : Jvm.ClassFile.decode (pm_bytes 69) 7 = .ok (.aload_n 0, 1) := by decide +kernel
theorem i_69_8 : Jvm.ClassFile.decode (pm_bytes 69) 8 = .ok (.iload_n 2, 1) := by decide +kernel
theorem i_69_9 : Jvm.ClassFile.decode (pm_bytes 69) 9 = .ok (.invokevirtual 59, 3) := by decide +kernel
theorem i_69_12 : Jvm.ClassFile.decode (pm_bytes 69) 12 = .ok (.ifCond .ne (11), 3) := by decide +kernel
theorem i_69_15 : Jvm.ClassFile.decode (pm_bytes 69) 15 = .ok (.aload_n 0, 1) := by decide +kernel
theorem i_69_16 : Jvm.ClassFile.decode (pm_bytes 69) 16 = .ok (.iload_n 3, 1) := by decide +kernel
theorem i_69_17 : Jvm.ClassFile.decode (pm_bytes 69) 17 = .ok (.invokevirtual 59, 3) := by decide +kernel
theorem i_69_20 : Jvm.ClassFile.decode (pm_bytes 69) 20 = .ok (.ifCond .eq (7), 3) := by decide +kernel
theorem i_69_23 : Jvm.ClassFile.decode (pm_bytes 69) 23 = .ok (.iconst 1, 1) := by decide +kernel
theorem i_69_24 : Jvm.ClassFile.decode (pm_bytes 69) 24 = .ok (.goto (4), 3) := by decide +kernel
theorem i_69_27 : Jvm.ClassFile.decode (pm_bytes 69) 27 = .ok (.iconst 0, 1) := by decide +kernel
theorem i_69_28 : Jvm.ClassFile.decode (pm_bytes 69) 28 = .ok (.invokevirtual 51, 3) := by decide +kernel
theorem i_69_31 : Jvm.ClassFile.decode (pm_bytes 69) 31 = .ok (.ifCond .ne (48), 3) := by decide +kernel
theorem i_69_34 : Jvm.ClassFile.decode (pm_bytes 69) 34 = .ok (.aload_n 0, 1) := by decide +kernel
theorem i_69_35 : Jvm.ClassFile.decode (pm_bytes 69) 35 = .ok (.iconst 2, 1) := by decide +kernel
theorem i_69_36 : Jvm.ClassFile.decode (pm_bytes 69) 36 = .ok (.iload_n 1, 1) := by decide +kernel
theorem i_69_37 : Jvm.ClassFile.decode (pm_bytes 69) 37 = .ok (.ifCond .lt (8), 3) := by decide +kernel
theorem i_69_40 : Jvm.ClassFile.decode (pm_bytes 69) 40 = .ok (.iload_n 1, 1) := by decide +kernel
theorem i_69_41 : Jvm.ClassFile.decode (pm_bytes 69) 41 = .ok (.iconst 2, 1) := by decide +kernel
theorem i_69_42 : Jvm.ClassFile.decode (pm_bytes 69) 42 = .ok (.if_icmp .le (7), 3) := by decide +kernel
theorem i_69_45 : Jvm.ClassFile.decode (pm_bytes 69) 45 = .ok (.iconst 1, 1) := by decide +kernel
theorem i_69_46 : Jvm.ClassFile.decode (pm_bytes 69) 46 = .ok (.goto (4), 3) := by decide +kernel
theorem i_69_49 : Jvm.ClassFile.decode (pm_bytes 69) 49 = .ok (.iconst 0, 1) := by decide +kernel
theorem i_69_50 : Jvm.ClassFile.decode (pm_bytes 69) 50 = .ok (.invokevirtual 51, 3) := by decide +kernel
theorem i_69_53 : Jvm.ClassFile.decode (pm_bytes 69) 53 = .ok (.ifCond .ne (26), 3) := by decide +kernel
theorem i_69_56 : Jvm.ClassFile.decode (pm_bytes 69) 56 = .ok (.aload_n 0, 1) := by decide +kernel
theorem i_69_57 : Jvm.ClassFile.decode (pm_bytes 69) 57 = .ok (.iconst 3, 1) := by decide +kernel
theorem i_69_58 : Jvm.ClassFile.decode (pm_bytes 69) 58 = .ok (.aload_n 0, 1) := by decide +kernel
theorem i_69_59 : Jvm.ClassFile.decode (pm_bytes 69) 59 = .ok (.getfield 13, 3) := by decide +kernel
theorem i_69_62 : Jvm.ClassFile.decode (pm_bytes 69) 62 = .ok (.sipush (2000), 3) := by decide +kernel
theorem i_69_65 : Jvm.ClassFile.decode (pm_bytes 69) 65 = .ok (.if_icmp .ne (7), 3) := by decide +kernel
theorem i_69_68 : Jvm.ClassFile.decode (pm_bytes 69) 68 = .ok (.iconst 1, 1) := by decide +kernel
theorem i_69_69 : Jvm.ClassFile.decode (pm_bytes 69) 69 = .ok (.goto (4), 3) := by decide +kernel
theorem i_69_72 : Jvm.ClassFile.decode (pm_bytes 69) 72 = .ok (.iconst 0, 1) := by decide +kernel
theorem i_69_73 : Jvm.ClassFile.decode (pm_bytes 69) 73 = .ok (.invokevirtual 51, 3) := by decide +kernel
theorem i_69_76 : Jvm.ClassFile.decode (pm_bytes 69) 76 = .ok (.ifCond .eq (5), 3) := by decide +kernel
theorem i_69_79 : Jvm.ClassFile.decode (pm_bytes 69) 79 = .ok (.iconst 0, 1) := by decide +kernel
theorem i_69_80 : Jvm.ClassFile.decode (pm_bytes 69) 80 = .ok (.ireturn, 1) := by decide +kernel
theorem i_69_81 : Jvm.ClassFile.decode (pm_bytes 69) 81 = .ok (.aload_n 0, 1) := by decide +kernel
theorem i_69_82 : Jvm.ClassFile.decode (pm_bytes 69) 82 = .ok (.iconst 3, 1) := by decide +kernel
theorem i_69_83 : Jvm.ClassFile.decode (pm_bytes 69) 83 = .ok (.iload_n 1, 1) := by decide +kernel
theorem i_69_84 : Jvm.ClassFile.decode (pm_bytes 69) 84 = .ok (.iadd, 1) := by decide +kernel
theorem i_69_85 : Jvm.ClassFile.decode (pm_bytes 69) 85 = .ok (.iload_n 2, 1) := by decide +kernel
theorem i_69_86 : Jvm.ClassFile.decode (pm_bytes 69) 86 = .ok (.iload_n 3, 1) := by decide +kernel
theorem i_69_87 : Jvm.ClassFile.decode (pm_bytes 69) 87 = .ok (.iconst 0, 1) := by decide +kernel
theorem i_69_88 : Jvm.ClassFile.decode (pm_bytes 69) 88 = .ok (.invokevirtual 55, 3) := by decide +kernel
theorem i_69_91 : Jvm.ClassFile.decode (pm_bytes 69) 91 = .ok (.ireturn, 1) := by decide +kernel
theorem f_70_7 : (pm_own 70, 7, 6, 0) ∈ pm_fld := f6_7
theorem f_70_13 : (pm_own 70, 13, 6, 1) ∈ pm_fld := f6_13
theorem k_70_51 : (pm_own 70, 51, 64, 3, (some 6 : Option Nat)) ∈ pm_call := k6_51
theorem k_70_55 : (pm_own 70, 55, 66, 5, (some 6 : Option Nat)) ∈ pm_call := k6_55
theorem k_70_59 : (pm_own 70, 59, 65, 2, (some 6 : Option Nat)) ∈ pm_call := k6_59
theorem m_70 : pm_mL 70 = 4 := rfl
theorem r_70 : pm_ret 70 = 1 := rfl
theorem i_70_0 : Jvm.ClassFile.decode (pm_bytes 70) 0 = .ok (.aload_n 0, 1) := by decide +kernel
theorem i_70_1 : Jvm.ClassFile.decode (pm_bytes 70) 1 = .ok (.iconst 0, 1) := by decide +kernel
theorem i_70_2 : Jvm.ClassFile.decode (pm_bytes 70) 2 = .ok (.putfield 7, 3) := by decide +kernel
theorem i_70_5 : Jvm.ClassFile.decode (pm_bytes 70) 5 = .ok (.aload_n 0, 1) := by decide +kernel
theorem i_70_6 : Jvm.ClassFile.decode (pm_bytes 70) 6 = .ok (.iconst 1, 1) := by decide +kernel
theorem i_70_7 : Jvm.ClassFile.decode (pm_bytes 70) 7 = .ok (.aload_n 0, 1) := by decide +kernel
theorem i_70_8 : Jvm.ClassFile.decode (pm_bytes 70) 8 = .ok (.iload_n 1, 1) := by decide +kernel
theorem i_70_9 : Jvm.ClassFile.decode (pm_bytes 70) 9 = .ok (.invokevirtual 59, 3) := by decide +kernel
theorem i_70_12 : Jvm.ClassFile.decode (pm_bytes 70) 12 = .ok (.ifCond .ne (19), 3) := by decide +kernel
theorem i_70_15 : Jvm.ClassFile.decode (pm_bytes 70) 15 = .ok (.aload_n 0, 1) := by decide +kernel
theorem i_70_16 : Jvm.ClassFile.decode (pm_bytes 70) 16 = .ok (.iload_n 2, 1) := by decide +kernel
theorem i_70_17 : Jvm.ClassFile.decode (pm_bytes 70) 17 = .ok (.invokevirtual 59, 3) := by decide +kernel
theorem i_70_20 : Jvm.ClassFile.decode (pm_bytes 70) 20 = .ok (.ifCond .ne (11), 3) := by decide +kernel
theorem i_70_23 : Jvm.ClassFile.decode (pm_bytes 70) 23 = .ok (.aload_n 0, 1) := by decide +kernel
theorem i_70_24 : Jvm.ClassFile.decode (pm_bytes 70) 24 = .ok (.iload_n 3, 1) := by decide +kernel
theorem i_70_25 : Jvm.ClassFile.decode (pm_bytes 70) 25 = .ok (.invokevirtual 59, 3) := by decide +kernel
theorem i_70_28 : Jvm.ClassFile.decode (pm_bytes 70) 28 = .ok (.ifCond .eq (7), 3) := by decide +kernel
theorem i_70_31 : Jvm.ClassFile.decode (pm_bytes 70) 31 = .ok (.iconst 1, 1) := by decide +kernel
theorem i_70_32 : Jvm.ClassFile.decode (pm_bytes 70) 32 = .ok (.goto (4), 3) := by decide +kernel
theorem i_70_35 : Jvm.ClassFile.decode (pm_bytes 70) 35 = .ok (.iconst 0, 1) := by decide +kernel
theorem i_70_36 : Jvm.ClassFile.decode (pm_bytes 70) 36 = .ok (.invokevirtual 51, 3) := by decide +kernel
theorem i_70_39 : Jvm.ClassFile.decode (pm_bytes 70) 39 = .ok (.ifCond .ne (26), 3) := by decide +kernel
theorem i_70_42 : Jvm.ClassFile.decode (pm_bytes 70) 42 = .ok (.aload_n 0, 1) := by decide +kernel
theorem i_70_43 : Jvm.ClassFile.decode (pm_bytes 70) 43 = .ok (.iconst 2, 1) := by decide +kernel
theorem i_70_44 : Jvm.ClassFile.decode (pm_bytes 70) 44 = .ok (.aload_n 0, 1) := by decide +kernel
theorem i_70_45 : Jvm.ClassFile.decode (pm_bytes 70) 45 = .ok (.getfield 13, 3) := by decide +kernel
theorem i_70_48 : Jvm.ClassFile.decode (pm_bytes 70) 48 = .ok (.sipush (2000), 3) := by decide +kernel
theorem i_70_51 : Jvm.ClassFile.decode (pm_bytes 70) 51 = .ok (.if_icmp .ne (7), 3) := by decide +kernel
theorem i_70_54 : Jvm.ClassFile.decode (pm_bytes 70) 54 = .ok (.iconst 1, 1) := by decide +kernel
theorem i_70_55 : Jvm.ClassFile.decode (pm_bytes 70) 55 = .ok (.goto (4), 3) := by decide +kernel
theorem i_70_58 : Jvm.ClassFile.decode (pm_bytes 70) 58 = .ok (.iconst 0, 1) := by decide +kernel
theorem i_70_59 : Jvm.ClassFile.decode (pm_bytes 70) 59 = .ok (.invokevirtual 51, 3) := by decide +kernel
theorem i_70_62 : Jvm.ClassFile.decode (pm_bytes 70) 62 = .ok (.ifCond .eq (5), 3) := by decide +kernel
theorem i_70_65 : Jvm.ClassFile.decode (pm_bytes 70) 65 = .ok (.iconst 0, 1) := by decide +kernel
theorem i_70_66 : Jvm.ClassFile.decode (pm_bytes 70) 66 = .ok (.ireturn, 1) := by decide +kernel
theorem i_70_67 : Jvm.ClassFile.decode (pm_bytes 70) 67 = .ok (.aload_n 0, 1) := by decide +kernel
theorem i_70_68 : Jvm.ClassFile.decode (pm_bytes 70) 68 = .ok (.bipush (6), 2) := by decide +kernel
theorem i_70_70 : Jvm.ClassFile.decode (pm_bytes 70) 70 = .ok (.iload_n 1, 1) := by decide +kernel
theorem i_70_71 : Jvm.ClassFile.decode (pm_bytes 70) 71 = .ok (.iload_n 2, 1) := by decide +kernel
theorem i_70_72 : Jvm.ClassFile.decode (pm_bytes 70) 72 = .ok (.iload_n 3, 1) := by decide +kernel
theorem i_70_73 : Jvm.ClassFile.decode (pm_bytes 70) 73 = .ok (.invokevirtual 55, 3) := by decide +kernel
theorem i_70_76 : Jvm.ClassFile.decode (pm_bytes 70) 76 = .ok (.ireturn, 1) := by decide +kernel
theorem f_71_7 : (pm_own 71, 7, 6, 0) ∈ pm_fld := f6_7
theorem f_71_19 : (pm_own 71, 19, 6, 3) ∈ pm_fld := f6_19
theorem f_71_35 : (pm_own 71, 35, 6, 8) ∈ pm_fld := f6_35
theorem k_71_51 : (pm_own 71, 51, 64, 3, (some 6 : Option Nat)) ∈ pm_call := k6_51
theorem k_71_59 : (pm_own 71, 59, 65, 2, (some 6 : Option Nat)) ∈ pm_call := k6_59
theorem m_71 : pm_mL 71 = 2 := rfl
theorem r_71 : pm_ret 71 = 1 := rfl
theorem i_71_0 : Jvm.ClassFile.decode (pm_bytes 71) 0 = .ok (.aload_n 0, 1) := by decide +kernel
theorem i_71_1 : Jvm.ClassFile.decode (pm_bytes 71) 1 = .ok (.iconst 0, 1) := by decide +kernel
theorem i_71_2 : Jvm.ClassFile.decode (pm_bytes 71) 2 = .ok (.putfield 7, 3) := by decide +kernel
theorem i_71_5 : Jvm.ClassFile.decode (pm_bytes 71) 5 = .ok (.aload_n 0, 1) := by decide +kernel
theorem i_71_6 : Jvm.ClassFile.decode (pm_bytes 71) 6 = .ok (.iconst 1, 1) := by decide +kernel
theorem i_71_7 : Jvm.ClassFile.decode (pm_bytes 71) 7 = .ok (.aload_n 0, 1) := by decide +kernel
theorem i_71_8 : Jvm.ClassFile.decode (pm_bytes 71) 8 = .ok (.iload_n 1, 1) := by decide +kernel
theorem i_71_9 : Jvm.ClassFile.decode (pm_bytes 71) 9 = .ok (.invokevirtual 59, 3) := by decide +kernel
theorem i_71_12 : Jvm.ClassFile.decode (pm_bytes 71) 12 = .ok (.invokevirtual 51, 3) := by decide +kernel
theorem i_71_15 : Jvm.ClassFile.decode (pm_bytes 71) 15 = .ok (.ifCond .ne (25), 3) := by decide +kernel
theorem i_71_18 : Jvm.ClassFile.decode (pm_bytes 71) 18 = .ok (.aload_n 0, 1) := by decide +kernel
theorem i_71_19 : Jvm.ClassFile.decode (pm_bytes 71) 19 = .ok (.iconst 2, 1) := by decide +kernel
theorem i_71_20 : Jvm.ClassFile.decode (pm_bytes 71) 20 = .ok (.aload_n 0, 1) := by decide +kernel
theorem i_71_21 : Jvm.ClassFile.decode (pm_bytes 71) 21 = .ok (.getfield 19, 3) := by decide +kernel
theorem i_71_24 : Jvm.ClassFile.decode (pm_bytes 71) 24 = .ok (.bipush (20), 2) := by decide +kernel
theorem i_71_26 : Jvm.ClassFile.decode (pm_bytes 71) 26 = .ok (.if_icmp .ne (7), 3) := by decide +kernel
theorem i_71_29 : Jvm.ClassFile.decode (pm_bytes 71) 29 = .ok (.iconst 1, 1) := by decide +kernel
theorem i_71_30 : Jvm.ClassFile.decode (pm_bytes 71) 30 = .ok (.goto (4), 3) := by decide +kernel
theorem i_71_33 : Jvm.ClassFile.decode (pm_bytes 71) 33 = .ok (.iconst 0, 1) := by decide +kernel
theorem i_71_34 : Jvm.ClassFile.decode (pm_bytes 71) 34 = .ok (.invokevirtual 51, 3) := by decide +kernel
theorem i_71_37 : Jvm.ClassFile.decode (pm_bytes 71) 37 = .ok (.ifCond .eq (5), 3) := by decide +kernel
theorem i_71_40 : Jvm.ClassFile.decode (pm_bytes 71) 40 = .ok (.iconst 0, 1) := by decide +kernel
theorem i_71_41 : Jvm.ClassFile.decode (pm_bytes 71) 41 = .ok (.ireturn, 1) := by decide +kernel
theorem i_71_42 : Jvm.ClassFile.decode (pm_bytes 71) 42 = .ok (.aload_n 0, 1) := by decide +kernel
theorem i_71_43 : Jvm.ClassFile.decode (pm_bytes 71) 43 = .ok (.getfield 35, 3) := by decide +kernel
theorem i_71_46 : Jvm.ClassFile.decode (pm_bytes 71) 46 = .ok (.aload_n 0, 1) := by decide +kernel
theorem i_71_47 : Jvm.ClassFile.decode (pm_bytes 71) 47 = .ok (.dup, 1) := by decide +kernel
theorem i_71_48 : Jvm.ClassFile.decode (pm_bytes 71) 48 = .ok (.getfield 19, 3) := by decide +kernel
theorem i_71_51 : Jvm.ClassFile.decode (pm_bytes 71) 51 = .ok (.dup_x1, 1) := by decide +kernel
theorem i_71_52 : Jvm.ClassFile.decode (pm_bytes 71) 52 = .ok (.iconst 1, 1) := by decide +kernel
theorem i_71_53 : Jvm.ClassFile.decode (pm_bytes 71) 53 = .ok (.iadd, 1) := by decide +kernel
theorem i_71_54 : Jvm.ClassFile.decode (pm_bytes 71) 54 = .ok (.putfield 19, 3) := by decide +kernel
theorem i_71_57 : Jvm.ClassFile.decode (pm_bytes 71) 57 = .ok (.iload_n 1, 1) := by decide +kernel
theorem i_71_58 : Jvm.ClassFile.decode (pm_bytes 71) 58 = .ok (.iastore, 1) := by decide +kernel
theorem i_71_59 : Jvm.ClassFile.decode (pm_bytes 71) 59 = .ok (.aload_n 0, 1) := by decide +kernel
theorem i_71_60 : Jvm.ClassFile.decode (pm_bytes 71) 60 = .ok (.getfield 19, 3) := by decide +kernel
theorem i_71_63 : Jvm.ClassFile.decode (pm_bytes 71) 63 = .ok (.ireturn, 1) := by decide +kernel
theorem f_72_7 : (pm_own 72, 7, 6, 0) ∈ pm_fld := f6_7
theorem f_72_19 : (pm_own 72, 19, 6, 3) ∈ pm_fld := f6_19
theorem m_72 : pm_mL 72 = 2 := rfl
theorem r_72 : pm_ret 72 = 1 := rfl
theorem i_72_0 : Jvm.ClassFile.decode (pm_bytes 72) 0 = .ok (.aload_n 0, 1) := by decide +kernel
theorem i_72_1 : Jvm.ClassFile.decode (pm_bytes 72) 1 = .ok (.iconst 0, 1) := by decide +kernel
theorem i_72_2 : Jvm.ClassFile.decode (pm_bytes 72) 2 = .ok (.putfield 7, 3) := by decide +kernel
theorem i_72_5 : Jvm.ClassFile.decode (pm_bytes 72) 5 = .ok (.aload_n 0, 1) := by decide +kernel
theorem i_72_6 : Jvm.ClassFile.decode (pm_bytes 72) 6 = .ok (.getfield 19, 3) := by decide +kernel
theorem i_72_9 : Jvm.ClassFile.decode (pm_bytes 72) 9 = .ok (.istore_n 1, 1) := by decide +kernel
theorem i_72_10 : Jvm.ClassFile.decode (pm_bytes 72) 10 = .ok (.aload_n 0, 1) := by decide +kernel
theorem i_72_11 : Jvm.ClassFile.decode (pm_bytes 72) 11 = .ok (.iconst 0, 1) := by decide +kernel
theorem i_72_12 : Jvm.ClassFile.decode (pm_bytes 72) 12 = .ok (.putfield 19, 3) := by decide +kernel
theorem i_72_15 : Jvm.ClassFile.decode (pm_bytes 72) 15 = .ok (.iload_n 1, 1) := by decide +kernel
theorem i_72_16 : Jvm.ClassFile.decode (pm_bytes 72) 16 = .ok (.ireturn, 1) := by decide +kernel
theorem f_73_13 : (pm_own 73, 13, 6, 1) ∈ pm_fld := f6_13
theorem f_73_22 : (pm_own 73, 22, 6, 4) ∈ pm_fld := f6_22
theorem f_73_26 : (pm_own 73, 26, 6, 5) ∈ pm_fld := f6_26
theorem f_73_29 : (pm_own 73, 29, 6, 6) ∈ pm_fld := f6_29
theorem f_73_32 : (pm_own 73, 32, 6, 7) ∈ pm_fld := f6_32
theorem f_73_38 : (pm_own 73, 38, 6, 9) ∈ pm_fld := f6_38
theorem f_73_45 : (pm_own 73, 45, 6, 11) ∈ pm_fld := f6_45
theorem m_73 : pm_mL 73 = 2 := rfl
theorem r_73 : pm_ret 73 = 0 := rfl
theorem i_73_0 : Jvm.ClassFile.decode (pm_bytes 73) 0 = .ok (.iconst 0, 1) := by decide +kernel
theorem i_73_1 : Jvm.ClassFile.decode (pm_bytes 73) 1 = .ok (.istore_n 1, 1) := by decide +kernel
theorem i_73_2 : Jvm.ClassFile.decode (pm_bytes 73) 2 = .ok (.iload_n 1, 1) := by decide +kernel
theorem i_73_3 : Jvm.ClassFile.decode (pm_bytes 73) 3 = .ok (.aload_n 0, 1) := by decide +kernel
theorem i_73_4 : Jvm.ClassFile.decode (pm_bytes 73) 4 = .ok (.getfield 13, 3) := by decide +kernel
theorem i_73_7 : Jvm.ClassFile.decode (pm_bytes 73) 7 = .ok (.if_icmp .ge (281), 3) := by decide +kernel
theorem i_73_10 : Jvm.ClassFile.decode (pm_bytes 73) 10 = .ok (.aload_n 0, 1) := by decide +kernel
theorem i_73_11 : Jvm.ClassFile.decode (pm_bytes 73) 11 = .ok (.getfield 22, 3) := by decide +kernel
theorem i_73_14 : Jvm.ClassFile.decode (pm_bytes 73) 14 = .ok (.iload_n 1, 1) := by decide +kernel
theorem i_73_15 : Jvm.ClassFile.decode (pm_bytes 73) 15 = .ok (.iaload, 1) := by decide +kernel
theorem i_73_16 : Jvm.ClassFile.decode (pm_bytes 73) 16 = .ok (.tableswitch (221) (0) (5) #[40, 50, 70, 98, 140, 182], 40) := by decide +kernel
theorem i_73_56 : Jvm.ClassFile.decode (pm_bytes 73) 56 = .ok (.aload_n 0, 1) := by decide +kernel
theorem i_73_57 : Jvm.ClassFile.decode (pm_bytes 73) 57 = .ok (.getfield 45, 3) := by decide +kernel
theorem i_73_60 : Jvm.ClassFile.decode (pm_bytes 73) 60 = .ok (.iload_n 1, 1) := by decide +kernel
theorem i_73_61 : Jvm.ClassFile.decode (pm_bytes 73) 61 = .ok (.iconst 0, 1) := by decide +kernel
theorem i_73_62 : Jvm.ClassFile.decode (pm_bytes 73) 62 = .ok (.bastore, 1) := by decide +kernel
theorem i_73_63 : Jvm.ClassFile.decode (pm_bytes 73) 63 = .ok (.goto (219), 3) := by decide +kernel
theorem i_73_66 : Jvm.ClassFile.decode (pm_bytes 73) 66 = .ok (.aload_n 0, 1) := by decide +kernel
theorem i_73_67 : Jvm.ClassFile.decode (pm_bytes 73) 67 = .ok (.getfield 45, 3) := by decide +kernel
theorem i_73_70 : Jvm.ClassFile.decode (pm_bytes 73) 70 = .ok (.iload_n 1, 1) := by decide +kernel
theorem i_73_71 : Jvm.ClassFile.decode (pm_bytes 73) 71 = .ok (.aload_n 0, 1) := by decide +kernel
theorem i_73_72 : Jvm.ClassFile.decode (pm_bytes 73) 72 = .ok (.getfield 38, 3) := by decide +kernel
theorem i_73_75 : Jvm.ClassFile.decode (pm_bytes 73) 75 = .ok (.aload_n 0, 1) := by decide +kernel
theorem i_73_76 : Jvm.ClassFile.decode (pm_bytes 73) 76 = .ok (.getfield 26, 3) := by decide +kernel
theorem i_73_79 : Jvm.ClassFile.decode (pm_bytes 73) 79 = .ok (.iload_n 1, 1) := by decide +kernel
theorem i_73_80 : Jvm.ClassFile.decode (pm_bytes 73) 80 = .ok (.iaload, 1) := by decide +kernel
theorem i_73_81 : Jvm.ClassFile.decode (pm_bytes 73) 81 = .ok (.baload, 1) := by decide +kernel
theorem i_73_82 : Jvm.ClassFile.decode (pm_bytes 73) 82 = .ok (.bastore, 1) := by decide +kernel
theorem i_73_83 : Jvm.ClassFile.decode (pm_bytes 73) 83 = .ok (.goto (199), 3) := by decide +kernel
theorem i_73_86 : Jvm.ClassFile.decode (pm_bytes 73) 86 = .ok (.aload_n 0, 1) := by decide +kernel
theorem i_73_87 : Jvm.ClassFile.decode (pm_bytes 73) 87 = .ok (.getfield 45, 3) := by decide +kernel
theorem i_73_90 : Jvm.ClassFile.decode (pm_bytes 73) 90 = .ok (.iload_n 1, 1) := by decide +kernel
theorem i_73_91 : Jvm.ClassFile.decode (pm_bytes 73) 91 = .ok (.aload_n 0, 1) := by decide +kernel
theorem i_73_92 : Jvm.ClassFile.decode (pm_bytes 73) 92 = .ok (.getfield 45, 3) := by decide +kernel
theorem i_73_95 : Jvm.ClassFile.decode (pm_bytes 73) 95 = .ok (.aload_n 0, 1) := by decide +kernel
theorem i_73_96 : Jvm.ClassFile.decode (pm_bytes 73) 96 = .ok (.getfield 26, 3) := by decide +kernel
theorem i_73_99 : Jvm.ClassFile.decode (pm_bytes 73) 99 = .ok (.iload_n 1, 1) := by decide +kernel
theorem i_73_100 : Jvm.ClassFile.decode (pm_bytes 73) 100 = .ok (.iaload, 1) := by decide +kernel
theorem i_73_101 : Jvm.ClassFile.decode (pm_bytes 73) 101 = .ok (.baload, 1) := by decide +kernel
theorem i_73_102 : Jvm.ClassFile.decode (pm_bytes 73) 102 = .ok (.ifCond .ne (7), 3) := by decide +kernel
theorem i_73_105 : Jvm.ClassFile.decode (pm_bytes 73) 105 = .ok (.iconst 1, 1) := by decide +kernel
theorem i_73_106 : Jvm.ClassFile.decode (pm_bytes 73) 106 = .ok (.goto (4), 3) := by decide +kernel
theorem i_73_109 : Jvm.ClassFile.decode (pm_bytes 73) 109 = .ok (.iconst 0, 1) := by decide +kernel
theorem i_73_110 : Jvm.ClassFile.decode (pm_bytes 73) 110 = .ok (.bastore, 1) := by decide +kernel
theorem i_73_111 : Jvm.ClassFile.decode (pm_bytes 73) 111 = .ok (.goto (171), 3) := by decide +kernel
theorem i_73_114 : Jvm.ClassFile.decode (pm_bytes 73) 114 = .ok (.aload_n 0, 1) := by decide +kernel
theorem i_73_115 : Jvm.ClassFile.decode (pm_bytes 73) 115 = .ok (.getfield 45, 3) := by decide +kernel
theorem i_73_118 : Jvm.ClassFile.decode (pm_bytes 73) 118 = .ok (.iload_n 1, 1) := by decide +kernel
theorem i_73_119 : Jvm.ClassFile.decode (pm_bytes 73) 119 = .ok (.aload_n 0, 1) := by decide +kernel
theorem i_73_120 : Jvm.ClassFile.decode (pm_bytes 73) 120 = .ok (.getfield 45, 3) := by decide +kernel
theorem i_73_123 : Jvm.ClassFile.decode (pm_bytes 73) 123 = .ok (.aload_n 0, 1) := by decide +kernel
theorem i_73_124 : Jvm.ClassFile.decode (pm_bytes 73) 124 = .ok (.getfield 26, 3) := by decide +kernel
theorem i_73_127 : Jvm.ClassFile.decode (pm_bytes 73) 127 = .ok (.iload_n 1, 1) := by decide +kernel
theorem i_73_128 : Jvm.ClassFile.decode (pm_bytes 73) 128 = .ok (.iaload, 1) := by decide +kernel
theorem i_73_129 : Jvm.ClassFile.decode (pm_bytes 73) 129 = .ok (.baload, 1) := by decide +kernel
theorem i_73_130 : Jvm.ClassFile.decode (pm_bytes 73) 130 = .ok (.ifCond .eq (21), 3) := by decide +kernel
theorem i_73_133 : Jvm.ClassFile.decode (pm_bytes 73) 133 = .ok (.aload_n 0, 1) := by decide +kernel
theorem i_73_134 : Jvm.ClassFile.decode (pm_bytes 73) 134 = .ok (.getfield 45, 3) := by decide +kernel
theorem i_73_137 : Jvm.ClassFile.decode (pm_bytes 73) 137 = .ok (.aload_n 0, 1) := by decide +kernel
theorem i_73_138 : Jvm.ClassFile.decode (pm_bytes 73) 138 = .ok (.getfield 29, 3) := by decide +kernel
theorem i_73_141 : Jvm.ClassFile.decode (pm_bytes 73) 141 = .ok (.iload_n 1, 1) := by decide +kernel
theorem i_73_142 : Jvm.ClassFile.decode (pm_bytes 73) 142 = .ok (.iaload, 1) := by decide +kernel
theorem i_73_143 : Jvm.ClassFile.decode (pm_bytes 73) 143 = .ok (.baload, 1) := by decide +kernel
theorem i_73_144 : Jvm.ClassFile.decode (pm_bytes 73) 144 = .ok (.ifCond .eq (7), 3) := by decide +kernel
theorem i_73_147 : Jvm.ClassFile.decode (pm_bytes 73) 147 = .ok (.iconst 1, 1) := by decide +kernel
theorem i_73_148 : Jvm.ClassFile.decode (pm_bytes 73) 148 = .ok (.goto (4), 3) := by decide +kernel
theorem i_73_151 : Jvm.ClassFile.decode (pm_bytes 73) 151 = .ok (.iconst 0, 1) := by decide +kernel
theorem i_73_152 : Jvm.ClassFile.decode (pm_bytes 73) 152 = .ok (.bastore, 1) := by decide +kernel
theorem i_73_153 : Jvm.ClassFile.decode (pm_bytes 73) 153 = .ok (.goto (129), 3) := by decide +kernel
theorem i_73_156 : Jvm.ClassFile.decode (pm_bytes 73) 156 = .ok (.aload_n 0, 1) := by decide +kernel
theorem i_73_157 : Jvm.ClassFile.decode (pm_bytes 73) 157 = .ok (.getfield 45, 3) := by decide +kernel
theorem i_73_160 : Jvm.ClassFile.decode (pm_bytes 73) 160 = .ok (.iload_n 1, 1) := by decide +kernel
theorem i_73_161 : Jvm.ClassFile.decode (pm_bytes 73) 161 = .ok (.aload_n 0, 1) := by decide +kernel
theorem i_73_162 : Jvm.ClassFile.decode (pm_bytes 73) 162 = .ok (.getfield 45, 3) := by decide +kernel
theorem i_73_165 : Jvm.ClassFile.decode (pm_bytes 73) 165 = .ok (.aload_n 0, 1) := by decide +kernel
theorem i_73_166 : Jvm.ClassFile.decode (pm_bytes 73) 166 = .ok (.getfield 26, 3) := by decide +kernel
theorem i_73_169 : Jvm.ClassFile.decode (pm_bytes 73) 169 = .ok (.iload_n 1, 1) := by decide +kernel
theorem i_73_170 : Jvm.ClassFile.decode (pm_bytes 73) 170 = .ok (.iaload, 1) := by decide +kernel
theorem i_73_171 : Jvm.ClassFile.decode (pm_bytes 73) 171 = .ok (.baload, 1) := by decide +kernel
theorem i_73_172 : Jvm.ClassFile.decode (pm_bytes 73) 172 = .ok (.ifCond .ne (17), 3) := by decide +kernel
theorem i_73_175 : Jvm.ClassFile.decode (pm_bytes 73) 175 = .ok (.aload_n 0, 1) := by decide +kernel
theorem i_73_176 : Jvm.ClassFile.decode (pm_bytes 73) 176 = .ok (.getfield 45, 3) := by decide +kernel
theorem i_73_179 : Jvm.ClassFile.decode (pm_bytes 73) 179 = .ok (.aload_n 0, 1) := by decide +kernel
theorem i_73_180 : Jvm.ClassFile.decode (pm_bytes 73) 180 = .ok (.getfield 29, 3) := by decide +kernel
theorem i_73_183 : Jvm.ClassFile.decode (pm_bytes 73) 183 = .ok (.iload_n 1, 1) := by decide +kernel
theorem i_73_184 : Jvm.ClassFile.decode (pm_bytes 73) 184 = .ok (.iaload, 1) := by decide +kernel
theorem i_73_185 : Jvm.ClassFile.decode (pm_bytes 73) 185 = .ok (.baload, 1) := by decide +kernel
theorem i_73_186 : Jvm.ClassFile.decode (pm_bytes 73) 186 = .ok (.ifCond .eq (7), 3) := by decide +kernel
theorem i_73_189 : Jvm.ClassFile.decode (pm_bytes 73) 189 = .ok (.iconst 1, 1) := by decide +kernel
theorem i_73_190 : Jvm.ClassFile.decode (pm_bytes 73) 190 = .ok (.goto (4), 3) := by decide +kernel
theorem i_73_193 : Jvm.ClassFile.decode (pm_bytes 73) 193 = .ok (.iconst 0, 1) := by decide +kernel
theorem i_73_194 : Jvm.ClassFile.decode (pm_bytes 73) 194 = .ok (.bastore, 1) := by decide +kernel
theorem i_73_195 : Jvm.ClassFile.decode (pm_bytes 73) 195 = .ok (.goto (87), 3) := by decide +kernel
theorem i_73_198 : Jvm.ClassFile.decode (pm_bytes 73) 198 = .ok (.aload_n 0, 1) := by decide +kernel
theorem i_73_199 : Jvm.ClassFile.decode (pm_bytes 73) 199 = .ok (.getfield 45, 3) := by decide +kernel
theorem i_73_202 : Jvm.ClassFile.decode (pm_bytes 73) 202 = .ok (.iload_n 1, 1) := by decide +kernel
theorem i_73_203 : Jvm.ClassFile.decode (pm_bytes 73) 203 = .ok (.aload_n 0, 1) := by decide +kernel
theorem i_73_204 : Jvm.ClassFile.decode (pm_bytes 73) 204 = .ok (.getfield 45, 3) := by decide +kernel
theorem i_73_207 : Jvm.ClassFile.decode (pm_bytes 73) 207 = .ok (.aload_n 0, 1) := by decide +kernel
theorem i_73_208 : Jvm.ClassFile.decode (pm_bytes 73) 208 = .ok (.getfield 26, 3) := by decide +kernel
theorem i_73_211 : Jvm.ClassFile.decode (pm_bytes 73) 211 = .ok (.iload_n 1, 1) := by decide +kernel
theorem i_73_212 : Jvm.ClassFile.decode (pm_bytes 73) 212 = .ok (.iaload, 1) := by decide +kernel
theorem i_73_213 : Jvm.ClassFile.decode (pm_bytes 73) 213 = .ok (.baload, 1) := by decide +kernel
theorem i_73_214 : Jvm.ClassFile.decode (pm_bytes 73) 214 = .ok (.aload_n 0, 1) := by decide +kernel
theorem i_73_215 : Jvm.ClassFile.decode (pm_bytes 73) 215 = .ok (.getfield 45, 3) := by decide +kernel
theorem i_73_218 : Jvm.ClassFile.decode (pm_bytes 73) 218 = .ok (.aload_n 0, 1) := by decide +kernel
theorem i_73_219 : Jvm.ClassFile.decode (pm_bytes 73) 219 = .ok (.getfield 29, 3) := by decide +kernel
theorem i_73_222 : Jvm.ClassFile.decode (pm_bytes 73) 222 = .ok (.iload_n 1, 1) := by decide +kernel
theorem i_73_223 : Jvm.ClassFile.decode (pm_bytes 73) 223 = .ok (.iaload, 1) := by decide +kernel
theorem i_73_224 : Jvm.ClassFile.decode (pm_bytes 73) 224 = .ok (.baload, 1) := by decide +kernel
theorem i_73_225 : Jvm.ClassFile.decode (pm_bytes 73) 225 = .ok (.if_icmp .eq (7), 3) := by decide +kernel
theorem i_73_228 : Jvm.ClassFile.decode (pm_bytes 73) 228 = .ok (.iconst 1, 1) := by decide +kernel
theorem i_73_229 : Jvm.ClassFile.decode (pm_bytes 73) 229 = .ok (.goto (4), 3) := by decide +kernel
theorem i_73_232 : Jvm.ClassFile.decode (pm_bytes 73) 232 = .ok (.iconst 0, 1) := by decide +kernel
theorem i_73_233 : Jvm.ClassFile.decode (pm_bytes 73) 233 = .ok (.bastore, 1) := by decide +kernel
theorem i_73_234 : Jvm.ClassFile.decode (pm_bytes 73) 234 = .ok (.goto (48), 3) := by decide +kernel
theorem i_73_237 : Jvm.ClassFile.decode (pm_bytes 73) 237 = .ok (.aload_n 0, 1) := by decide +kernel
theorem i_73_238 : Jvm.ClassFile.decode (pm_bytes 73) 238 = .ok (.getfield 45, 3) := by decide +kernel
theorem i_73_241 : Jvm.ClassFile.decode (pm_bytes 73) 241 = .ok (.iload_n 1, 1) := by decide +kernel
theorem i_73_242 : Jvm.ClassFile.decode (pm_bytes 73) 242 = .ok (.aload_n 0, 1) := by decide +kernel
theorem i_73_243 : Jvm.ClassFile.decode (pm_bytes 73) 243 = .ok (.getfield 45, 3) := by decide +kernel
theorem i_73_246 : Jvm.ClassFile.decode (pm_bytes 73) 246 = .ok (.aload_n 0, 1) := by decide +kernel
theorem i_73_247 : Jvm.ClassFile.decode (pm_bytes 73) 247 = .ok (.getfield 26, 3) := by decide +kernel
theorem i_73_250 : Jvm.ClassFile.decode (pm_bytes 73) 250 = .ok (.iload_n 1, 1) := by decide +kernel
theorem i_73_251 : Jvm.ClassFile.decode (pm_bytes 73) 251 = .ok (.iaload, 1) := by decide +kernel
theorem i_73_252 : Jvm.ClassFile.decode (pm_bytes 73) 252 = .ok (.baload, 1) := by decide +kernel
theorem i_73_253 : Jvm.ClassFile.decode (pm_bytes 73) 253 = .ok (.ifCond .eq (17), 3) := by decide +kernel
theorem i_73_256 : Jvm.ClassFile.decode (pm_bytes 73) 256 = .ok (.aload_n 0, 1) := by decide +kernel
theorem i_73_257 : Jvm.ClassFile.decode (pm_bytes 73) 257 = .ok (.getfield 45, 3) := by decide +kernel
theorem i_73_260 : Jvm.ClassFile.decode (pm_bytes 73) 260 = .ok (.aload_n 0, 1) := by decide +kernel
theorem i_73_261 : Jvm.ClassFile.decode (pm_bytes 73) 261 = .ok (.getfield 29, 3) := by decide +kernel
theorem i_73_264 : Jvm.ClassFile.decode (pm_bytes 73) 264 = .ok (.iload_n 1, 1) := by decide +kernel
theorem i_73_265 : Jvm.ClassFile.decode (pm_bytes 73) 265 = .ok (.iaload, 1) := by decide +kernel
theorem i_73_266 : Jvm.ClassFile.decode (pm_bytes 73) 266 = .ok (.baload, 1) := by decide +kernel
theorem i_73_267 : Jvm.ClassFile.decode (pm_bytes 73) 267 = .ok (.goto (14), 3) := by decide +kernel
theorem i_73_270 : Jvm.ClassFile.decode (pm_bytes 73) 270 = .ok (.aload_n 0, 1) := by decide +kernel
theorem i_73_271 : Jvm.ClassFile.decode (pm_bytes 73) 271 = .ok (.getfield 45, 3) := by decide +kernel
theorem i_73_274 : Jvm.ClassFile.decode (pm_bytes 73) 274 = .ok (.aload_n 0, 1) := by decide +kernel
theorem i_73_275 : Jvm.ClassFile.decode (pm_bytes 73) 275 = .ok (.getfield 32, 3) := by decide +kernel
theorem i_73_278 : Jvm.ClassFile.decode (pm_bytes 73) 278 = .ok (.iload_n 1, 1) := by decide +kernel
theorem i_73_279 : Jvm.ClassFile.decode (pm_bytes 73) 279 = .ok (.iaload, 1) := by decide +kernel
theorem i_73_280 : Jvm.ClassFile.decode (pm_bytes 73) 280 = .ok (.baload, 1) := by decide +kernel
theorem i_73_281 : Jvm.ClassFile.decode (pm_bytes 73) 281 = .ok (.bastore, 1) := by decide +kernel
theorem i_73_282 : Jvm.ClassFile.decode (pm_bytes 73) 282 = .ok (.iinc 1 (1), 3) := by decide +kernel
theorem i_73_285 : Jvm.ClassFile.decode (pm_bytes 73) 285 = .ok (.goto (-283), 3) := by decide +kernel
theorem i_73_288 : Jvm.ClassFile.decode (pm_bytes 73) 288 = .ok (.return_, 1) := by decide +kernel
theorem f_74_16 : (pm_own 74, 16, 6, 2) ∈ pm_fld := f6_16
theorem f_74_38 : (pm_own 74, 38, 6, 9) ∈ pm_fld := f6_38
theorem m_74 : pm_mL 74 = 2 := rfl
theorem r_74 : pm_ret 74 = 2 := rfl
theorem i_74_0 : Jvm.ClassFile.decode (pm_bytes 74) 0 = .ok (.aload_n 0, 1) := by decide +kernel
theorem i_74_1 : Jvm.ClassFile.decode (pm_bytes 74) 1 = .ok (.getfield 16, 3) := by decide +kernel
theorem i_74_4 : Jvm.ClassFile.decode (pm_bytes 74) 4 = .ok (.iconst 1, 1) := by decide +kernel
theorem i_74_5 : Jvm.ClassFile.decode (pm_bytes 74) 5 = .ok (.isub, 1) := by decide +kernel
theorem i_74_6 : Jvm.ClassFile.decode (pm_bytes 74) 6 = .ok (.istore_n 1, 1) := by decide +kernel
theorem i_74_7 : Jvm.ClassFile.decode (pm_bytes 74) 7 = .ok (.iload_n 1, 1) := by decide +kernel
theorem i_74_8 : Jvm.ClassFile.decode (pm_bytes 74) 8 = .ok (.ifCond .lt (40), 3) := by decide +kernel
theorem i_74_11 : Jvm.ClassFile.decode (pm_bytes 74) 11 = .ok (.aload_n 0, 1) := by decide +kernel
theorem i_74_12 : Jvm.ClassFile.decode (pm_bytes 74) 12 = .ok (.getfield 38, 3) := by decide +kernel
theorem i_74_15 : Jvm.ClassFile.decode (pm_bytes 74) 15 = .ok (.iload_n 1, 1) := by decide +kernel
theorem i_74_16 : Jvm.ClassFile.decode (pm_bytes 74) 16 = .ok (.aload_n 0, 1) := by decide +kernel
theorem i_74_17 : Jvm.ClassFile.decode (pm_bytes 74) 17 = .ok (.getfield 38, 3) := by decide +kernel
theorem i_74_20 : Jvm.ClassFile.decode (pm_bytes 74) 20 = .ok (.iload_n 1, 1) := by decide +kernel
theorem i_74_21 : Jvm.ClassFile.decode (pm_bytes 74) 21 = .ok (.baload, 1) := by decide +kernel
theorem i_74_22 : Jvm.ClassFile.decode (pm_bytes 74) 22 = .ok (.ifCond .ne (7), 3) := by decide +kernel
theorem i_74_25 : Jvm.ClassFile.decode (pm_bytes 74) 25 = .ok (.iconst 1, 1) := by decide +kernel
theorem i_74_26 : Jvm.ClassFile.decode (pm_bytes 74) 26 = .ok (.goto (4), 3) := by decide +kernel
theorem i_74_29 : Jvm.ClassFile.decode (pm_bytes 74) 29 = .ok (.iconst 0, 1) := by decide +kernel
theorem i_74_30 : Jvm.ClassFile.decode (pm_bytes 74) 30 = .ok (.bastore, 1) := by decide +kernel
theorem i_74_31 : Jvm.ClassFile.decode (pm_bytes 74) 31 = .ok (.aload_n 0, 1) := by decide +kernel
theorem i_74_32 : Jvm.ClassFile.decode (pm_bytes 74) 32 = .ok (.getfield 38, 3) := by decide +kernel
theorem i_74_35 : Jvm.ClassFile.decode (pm_bytes 74) 35 = .ok (.iload_n 1, 1) := by decide +kernel
theorem i_74_36 : Jvm.ClassFile.decode (pm_bytes 74) 36 = .ok (.baload, 1) := by decide +kernel
theorem i_74_37 : Jvm.ClassFile.decode (pm_bytes 74) 37 = .ok (.ifCond .eq (5), 3) := by decide +kernel
theorem i_74_40 : Jvm.ClassFile.decode (pm_bytes 74) 40 = .ok (.iconst 1, 1) := by decide +kernel
theorem i_74_41 : Jvm.ClassFile.decode (pm_bytes 74) 41 = .ok (.ireturn, 1) := by decide +kernel
theorem i_74_42 : Jvm.ClassFile.decode (pm_bytes 74) 42 = .ok (.iinc 1 (-1), 3) := by decide +kernel
theorem i_74_45 : Jvm.ClassFile.decode (pm_bytes 74) 45 = .ok (.goto (-38), 3) := by decide +kernel
theorem i_74_48 : Jvm.ClassFile.decode (pm_bytes 74) 48 = .ok (.iconst 0, 1) := by decide +kernel
theorem i_74_49 : Jvm.ClassFile.decode (pm_bytes 74) 49 = .ok (.ireturn, 1) := by decide +kernel
theorem f_75_38 : (pm_own 75, 38, 6, 9) ∈ pm_fld := f6_38
theorem f_75_42 : (pm_own 75, 42, 6, 10) ∈ pm_fld := f6_42
theorem m_75 : pm_mL 75 = 2 := rfl
theorem r_75 : pm_ret 75 = 0 := rfl
theorem i_75_0 : Jvm.ClassFile.decode (pm_bytes 75) 0 = .ok (.iconst 0, 1) := by decide +kernel
theorem i_75_1 : Jvm.ClassFile.decode (pm_bytes 75) 1 = .ok (.istore_n 1, 1) := by decide +kernel
theorem i_75_2 : Jvm.ClassFile.decode (pm_bytes 75) 2 = .ok (.iload_n 1, 1) := by decide +kernel
theorem i_75_3 : Jvm.ClassFile.decode (pm_bytes 75) 3 = .ok (.bipush (12), 2) := by decide +kernel
theorem i_75_5 : Jvm.ClassFile.decode (pm_bytes 75) 5 = .ok (.if_icmp .ge (28), 3) := by decide +kernel
theorem i_75_8 : Jvm.ClassFile.decode (pm_bytes 75) 8 = .ok (.aload_n 0, 1) := by decide +kernel
theorem i_75_9 : Jvm.ClassFile.decode (pm_bytes 75) 9 = .ok (.getfield 42, 3) := by decide +kernel
theorem i_75_12 : Jvm.ClassFile.decode (pm_bytes 75) 12 = .ok (.iload_n 1, 1) := by decide +kernel
theorem i_75_13 : Jvm.ClassFile.decode (pm_bytes 75) 13 = .ok (.aload_n 0, 1) := by decide +kernel
theorem i_75_14 : Jvm.ClassFile.decode (pm_bytes 75) 14 = .ok (.getfield 38, 3) := by decide +kernel
theorem i_75_17 : Jvm.ClassFile.decode (pm_bytes 75) 17 = .ok (.iload_n 1, 1) := by decide +kernel
theorem i_75_18 : Jvm.ClassFile.decode (pm_bytes 75) 18 = .ok (.baload, 1) := by decide +kernel
theorem i_75_19 : Jvm.ClassFile.decode (pm_bytes 75) 19 = .ok (.bastore, 1) := by decide +kernel
theorem i_75_20 : Jvm.ClassFile.decode (pm_bytes 75) 20 = .ok (.aload_n 0, 1) := by decide +kernel
theorem i_75_21 : Jvm.ClassFile.decode (pm_bytes 75) 21 = .ok (.getfield 38, 3) := by decide +kernel
theorem i_75_24 : Jvm.ClassFile.decode (pm_bytes 75) 24 = .ok (.iload_n 1, 1) := by decide +kernel
theorem i_75_25 : Jvm.ClassFile.decode (pm_bytes 75) 25 = .ok (.iconst 0, 1) := by decide +kernel
theorem i_75_26 : Jvm.ClassFile.decode (pm_bytes 75) 26 = .ok (.bastore, 1) := by decide +kernel
theorem i_75_27 : Jvm.ClassFile.decode (pm_bytes 75) 27 = .ok (.iinc 1 (1), 3) := by decide +kernel
theorem i_75_30 : Jvm.ClassFile.decode (pm_bytes 75) 30 = .ok (.goto (-28), 3) := by decide +kernel
theorem i_75_33 : Jvm.ClassFile.decode (pm_bytes 75) 33 = .ok (.return_, 1) := by decide +kernel
theorem f_76_38 : (pm_own 76, 38, 6, 9) ∈ pm_fld := f6_38
theorem f_76_42 : (pm_own 76, 42, 6, 10) ∈ pm_fld := f6_42
theorem m_76 : pm_mL 76 = 2 := rfl
theorem r_76 : pm_ret 76 = 0 := rfl
theorem i_76_0 : Jvm.ClassFile.decode (pm_bytes 76) 0 = .ok (.iconst 0, 1) := by decide +kernel
theorem i_76_1 : Jvm.ClassFile.decode (pm_bytes 76) 1 = .ok (.istore_n 1, 1) := by decide +kernel
theorem i_76_2 : Jvm.ClassFile.decode (pm_bytes 76) 2 = .ok (.iload_n 1, 1) := by decide +kernel
theorem i_76_3 : Jvm.ClassFile.decode (pm_bytes 76) 3 = .ok (.bipush (12), 2) := by decide +kernel
theorem i_76_5 : Jvm.ClassFile.decode (pm_bytes 76) 5 = .ok (.if_icmp .ge (21), 3) := by decide +kernel
theorem i_76_8 : Jvm.ClassFile.decode (pm_bytes 76) 8 = .ok (.aload_n 0, 1) := by decide +kernel
theorem i_76_9 : Jvm.ClassFile.decode (pm_bytes 76) 9 = .ok (.getfield 38, 3) := by decide +kernel
theorem i_76_12 : Jvm.ClassFile.decode (pm_bytes 76) 12 = .ok (.iload_n 1, 1) := by decide +kernel
theorem i_76_13 : Jvm.ClassFile.decode (pm_bytes 76) 13 = .ok (.aload_n 0, 1) := by decide +kernel
theorem i_76_14 : Jvm.ClassFile.decode (pm_bytes 76) 14 = .ok (.getfield 42, 3) := by decide +kernel
theorem i_76_17 : Jvm.ClassFile.decode (pm_bytes 76) 17 = .ok (.iload_n 1, 1) := by decide +kernel
theorem i_76_18 : Jvm.ClassFile.decode (pm_bytes 76) 18 = .ok (.baload, 1) := by decide +kernel
theorem i_76_19 : Jvm.ClassFile.decode (pm_bytes 76) 19 = .ok (.bastore, 1) := by decide +kernel
theorem i_76_20 : Jvm.ClassFile.decode (pm_bytes 76) 20 = .ok (.iinc 1 (1), 3) := by decide +kernel
theorem i_76_23 : Jvm.ClassFile.decode (pm_bytes 76) 23 = .ok (.goto (-21), 3) := by decide +kernel
theorem i_76_26 : Jvm.ClassFile.decode (pm_bytes 76) 26 = .ok (.return_, 1) := by decide +kernel
theorem f_77_45 : (pm_own 77, 45, 6, 11) ∈ pm_fld := f6_45
theorem k_77_63 : (pm_own 77, 63, 75, 1, (some 6 : Option Nat)) ∈ pm_call := k6_63
theorem k_77_66 : (pm_own 77, 66, 73, 1, (some 6 : Option Nat)) ∈ pm_call := k6_66
theorem k_77_69 : (pm_own 77, 69, 74, 1, (some 6 : Option Nat)) ∈ pm_call := k6_69
theorem k_77_73 : (pm_own 77, 73, 76, 1, (some 6 : Option Nat)) ∈ pm_call := k6_73
theorem m_77 : pm_mL 77 = 6 := rfl
theorem r_77 : pm_ret 77 = 2 := rfl
theorem i_77_0 : Jvm.ClassFile.decode (pm_bytes 77) 0 = .ok (.aload_n 0, 1) := by decide +kernel
theorem i_77_1 : Jvm.ClassFile.decode (pm_bytes 77) 1 = .ok (.invokevirtual 63, 3) := by decide +kernel
theorem i_77_4 : Jvm.ClassFile.decode (pm_bytes 77) 4 = .ok (.iconst 1, 1) := by decide +kernel
theorem i_77_5 : Jvm.ClassFile.decode (pm_bytes 77) 5 = .ok (.istore_n 3, 1) := by decide +kernel
theorem i_77_6 : Jvm.ClassFile.decode (pm_bytes 77) 6 = .ok (.iload_n 3, 1) := by decide +kernel
theorem i_77_7 : Jvm.ClassFile.decode (pm_bytes 77) 7 = .ok (.ifCond .eq (64), 3) := by decide +kernel
theorem i_77_10 : Jvm.ClassFile.decode (pm_bytes 77) 10 = .ok (.aload_n 0, 1) := by decide +kernel
theorem i_77_11 : Jvm.ClassFile.decode (pm_bytes 77) 11 = .ok (.invokevirtual 66, 3) := by decide +kernel
theorem i_77_14 : Jvm.ClassFile.decode (pm_bytes 77) 14 = .ok (.iconst 1, 1) := by decide +kernel
theorem i_77_15 : Jvm.ClassFile.decode (pm_bytes 77) 15 = .ok (.istore 4, 2) := by decide +kernel
theorem i_77_17 : Jvm.ClassFile.decode (pm_bytes 77) 17 = .ok (.iconst 0, 1) := by decide +kernel
theorem i_77_18 : Jvm.ClassFile.decode (pm_bytes 77) 18 = .ok (.istore 5, 2) := by decide +kernel
theorem i_77_20 : Jvm.ClassFile.decode (pm_bytes 77) 20 = .ok (.iload 5, 2) := by decide +kernel
theorem i_77_22 : Jvm.ClassFile.decode (pm_bytes 77) 22 = .ok (.iload_n 2, 1) := by decide +kernel
theorem i_77_23 : Jvm.ClassFile.decode (pm_bytes 77) 23 = .ok (.if_icmp .ge (33), 3) := by decide +kernel
theorem i_77_26 : Jvm.ClassFile.decode (pm_bytes 77) 26 = .ok (.iload 4, 2) := by decide +kernel
theorem i_77_28 : Jvm.ClassFile.decode (pm_bytes 77) 28 = .ok (.ifCond .eq (19), 3) := by decide +kernel
theorem i_77_31 : Jvm.ClassFile.decode (pm_bytes 77) 31 = .ok (.aload_n 0, 1) := by decide +kernel
theorem i_77_32 : Jvm.ClassFile.decode (pm_bytes 77) 32 = .ok (.getfield 45, 3) := by decide +kernel
theorem i_77_35 : Jvm.ClassFile.decode (pm_bytes 77) 35 = .ok (.aload_n 1, 1) := by decide +kernel
theorem i_77_36 : Jvm.ClassFile.decode (pm_bytes 77) 36 = .ok (.iload 5, 2) := by decide +kernel
theorem i_77_38 : Jvm.ClassFile.decode (pm_bytes 77) 38 = .ok (.iaload, 1) := by decide +kernel
theorem i_77_39 : Jvm.ClassFile.decode (pm_bytes 77) 39 = .ok (.baload, 1) := by decide +kernel
theorem i_77_40 : Jvm.ClassFile.decode (pm_bytes 77) 40 = .ok (.ifCond .eq (7), 3) := by decide +kernel
theorem i_77_43 : Jvm.ClassFile.decode (pm_bytes 77) 43 = .ok (.iconst 1, 1) := by decide +kernel
theorem i_77_44 : Jvm.ClassFile.decode (pm_bytes 77) 44 = .ok (.goto (4), 3) := by decide +kernel
theorem i_77_47 : Jvm.ClassFile.decode (pm_bytes 77) 47 = .ok (.iconst 0, 1) := by decide +kernel
theorem i_77_48 : Jvm.ClassFile.decode (pm_bytes 77) 48 = .ok (.istore 4, 2) := by decide +kernel
theorem i_77_50 : Jvm.ClassFile.decode (pm_bytes 77) 50 = .ok (.iinc 5 (1), 3) := by decide +kernel
theorem i_77_53 : Jvm.ClassFile.decode (pm_bytes 77) 53 = .ok (.goto (-33), 3) := by decide +kernel
theorem i_77_56 : Jvm.ClassFile.decode (pm_bytes 77) 56 = .ok (.iload 4, 2) := by decide +kernel
theorem i_77_58 : Jvm.ClassFile.decode (pm_bytes 77) 58 = .ok (.ifCond .eq (5), 3) := by decide +kernel
theorem i_77_61 : Jvm.ClassFile.decode (pm_bytes 77) 61 = .ok (.iconst 1, 1) := by decide +kernel
theorem i_77_62 : Jvm.ClassFile.decode (pm_bytes 77) 62 = .ok (.ireturn, 1) := by decide +kernel
theorem i_77_63 : Jvm.ClassFile.decode (pm_bytes 77) 63 = .ok (.aload_n 0, 1) := by decide +kernel
theorem i_77_64 : Jvm.ClassFile.decode (pm_bytes 77) 64 = .ok (.invokevirtual 69, 3) := by decide +kernel
theorem i_77_67 : Jvm.ClassFile.decode (pm_bytes 77) 67 = .ok (.istore_n 3, 1) := by decide +kernel
theorem i_77_68 : Jvm.ClassFile.decode (pm_bytes 77) 68 = .ok (.goto (-62), 3) := by decide +kernel
theorem i_77_71 : Jvm.ClassFile.decode (pm_bytes 77) 71 = .ok (.aload_n 0, 1) := by decide +kernel
theorem i_77_72 : Jvm.ClassFile.decode (pm_bytes 77) 72 = .ok (.invokevirtual 73, 3) := by decide +kernel
theorem i_77_75 : Jvm.ClassFile.decode (pm_bytes 77) 75 = .ok (.iconst 0, 1) := by decide +kernel
theorem i_77_76 : Jvm.ClassFile.decode (pm_bytes 77) 76 = .ok (.ireturn, 1) := by decide +kernel
theorem f_78_7 : (pm_own 78, 7, 6, 0) ∈ pm_fld := f6_7
theorem f_78_19 : (pm_own 78, 19, 6, 3) ∈ pm_fld := f6_19
theorem f_78_35 : (pm_own 78, 35, 6, 8) ∈ pm_fld := f6_35
theorem k_78_76 : (pm_own 78, 76, 77, 3, (some 6 : Option Nat)) ∈ pm_call := k6_76
theorem m_78 : pm_mL 78 = 1 := rfl
theorem r_78 : pm_ret 78 = 2 := rfl
theorem i_78_0 : Jvm.ClassFile.decode (pm_bytes 78) 0 = .ok (.aload_n 0, 1) := by decide +kernel
theorem i_78_1 : Jvm.ClassFile.decode (pm_bytes 78) 1 = .ok (.iconst 0, 1) := by decide +kernel
theorem i_78_2 : Jvm.ClassFile.decode (pm_bytes 78) 2 = .ok (.putfield 7, 3) := by decide +kernel
theorem i_78_5 : Jvm.ClassFile.decode (pm_bytes 78) 5 = .ok (.aload_n 0, 1) := by decide +kernel
theorem i_78_6 : Jvm.ClassFile.decode (pm_bytes 78) 6 = .ok (.aload_n 0, 1) := by decide +kernel
theorem i_78_7 : Jvm.ClassFile.decode (pm_bytes 78) 7 = .ok (.getfield 35, 3) := by decide +kernel
theorem i_78_10 : Jvm.ClassFile.decode (pm_bytes 78) 10 = .ok (.aload_n 0, 1) := by decide +kernel
theorem i_78_11 : Jvm.ClassFile.decode (pm_bytes 78) 11 = .ok (.getfield 19, 3) := by decide +kernel
theorem i_78_14 : Jvm.ClassFile.decode (pm_bytes 78) 14 = .ok (.invokevirtual 76, 3) := by decide +kernel
theorem i_78_17 : Jvm.ClassFile.decode (pm_bytes 78) 17 = .ok (.ireturn, 1) := by decide +kernel
theorem f_79_7 : (pm_own 79, 7, 6, 0) ∈ pm_fld := f6_7
theorem f_79_19 : (pm_own 79, 19, 6, 3) ∈ pm_fld := f6_19
theorem f_79_35 : (pm_own 79, 35, 6, 8) ∈ pm_fld := f6_35
theorem f_79_48 : (pm_own 79, 48, 6, 12) ∈ pm_fld := f6_48
theorem k_79_73 : (pm_own 79, 73, 76, 1, (some 6 : Option Nat)) ∈ pm_call := k6_73
theorem k_79_76 : (pm_own 79, 76, 77, 3, (some 6 : Option Nat)) ∈ pm_call := k6_76
theorem m_79 : pm_mL 79 = 4 := rfl
theorem r_79 : pm_ret 79 = 1 := rfl
theorem i_79_0 : Jvm.ClassFile.decode (pm_bytes 79) 0 = .ok (.aload_n 0, 1) := by decide +kernel
theorem i_79_1 : Jvm.ClassFile.decode (pm_bytes 79) 1 = .ok (.iconst 0, 1) := by decide +kernel
theorem i_79_2 : Jvm.ClassFile.decode (pm_bytes 79) 2 = .ok (.putfield 7, 3) := by decide +kernel
theorem i_79_5 : Jvm.ClassFile.decode (pm_bytes 79) 5 = .ok (.aload_n 0, 1) := by decide +kernel
theorem i_79_6 : Jvm.ClassFile.decode (pm_bytes 79) 6 = .ok (.aload_n 0, 1) := by decide +kernel
theorem i_79_7 : Jvm.ClassFile.decode (pm_bytes 79) 7 = .ok (.getfield 35, 3) := by decide +kernel
theorem i_79_10 : Jvm.ClassFile.decode (pm_bytes 79) 10 = .ok (.aload_n 0, 1) := by decide +kernel
theorem i_79_11 : Jvm.ClassFile.decode (pm_bytes 79) 11 = .ok (.getfield 19, 3) := by decide +kernel
theorem i_79_14 : Jvm.ClassFile.decode (pm_bytes 79) 14 = .ok (.invokevirtual 76, 3) := by decide +kernel
theorem i_79_17 : Jvm.ClassFile.decode (pm_bytes 79) 17 = .ok (.ifCond .eq (9), 3) := by decide +kernel
theorem i_79_20 : Jvm.ClassFile.decode (pm_bytes 79) 20 = .ok (.aload_n 0, 1) := by decide +kernel
theorem i_79_21 : Jvm.ClassFile.decode (pm_bytes 79) 21 = .ok (.invokevirtual 73, 3) := by decide +kernel
theorem i_79_24 : Jvm.ClassFile.decode (pm_bytes 79) 24 = .ok (.iconst (-1), 1) := by decide +kernel
theorem i_79_25 : Jvm.ClassFile.decode (pm_bytes 79) 25 = .ok (.ireturn, 1) := by decide +kernel
theorem i_79_26 : Jvm.ClassFile.decode (pm_bytes 79) 26 = .ok (.iconst 0, 1) := by decide +kernel
theorem i_79_27 : Jvm.ClassFile.decode (pm_bytes 79) 27 = .ok (.istore_n 1, 1) := by decide +kernel
theorem i_79_28 : Jvm.ClassFile.decode (pm_bytes 79) 28 = .ok (.iload_n 1, 1) := by decide +kernel
theorem i_79_29 : Jvm.ClassFile.decode (pm_bytes 79) 29 = .ok (.aload_n 0, 1) := by decide +kernel
theorem i_79_30 : Jvm.ClassFile.decode (pm_bytes 79) 30 = .ok (.getfield 19, 3) := by decide +kernel
theorem i_79_33 : Jvm.ClassFile.decode (pm_bytes 79) 33 = .ok (.if_icmp .ge (96), 3) := by decide +kernel
theorem i_79_36 : Jvm.ClassFile.decode (pm_bytes 79) 36 = .ok (.iconst 0, 1) := by decide +kernel
theorem i_79_37 : Jvm.ClassFile.decode (pm_bytes 79) 37 = .ok (.istore_n 2, 1) := by decide +kernel
theorem i_79_38 : Jvm.ClassFile.decode (pm_bytes 79) 38 = .ok (.iconst 0, 1) := by decide +kernel
theorem i_79_39 : Jvm.ClassFile.decode (pm_bytes 79) 39 = .ok (.istore_n 3, 1) := by decide +kernel
theorem i_79_40 : Jvm.ClassFile.decode (pm_bytes 79) 40 = .ok (.iload_n 3, 1) := by decide +kernel
theorem i_79_41 : Jvm.ClassFile.decode (pm_bytes 79) 41 = .ok (.aload_n 0, 1) := by decide +kernel
theorem i_79_42 : Jvm.ClassFile.decode (pm_bytes 79) 42 = .ok (.getfield 19, 3) := by decide +kernel
theorem i_79_45 : Jvm.ClassFile.decode (pm_bytes 79) 45 = .ok (.if_icmp .ge (29), 3) := by decide +kernel
theorem i_79_48 : Jvm.ClassFile.decode (pm_bytes 79) 48 = .ok (.iload_n 3, 1) := by decide +kernel
theorem i_79_49 : Jvm.ClassFile.decode (pm_bytes 79) 49 = .ok (.iload_n 1, 1) := by decide +kernel
theorem i_79_50 : Jvm.ClassFile.decode (pm_bytes 79) 50 = .ok (.if_icmp .eq (18), 3) := by decide +kernel
theorem i_79_53 : Jvm.ClassFile.decode (pm_bytes 79) 53 = .ok (.aload_n 0, 1) := by decide +kernel
theorem i_79_54 : Jvm.ClassFile.decode (pm_bytes 79) 54 = .ok (.getfield 48, 3) := by decide +kernel
theorem i_79_57 : Jvm.ClassFile.decode (pm_bytes 79) 57 = .ok (.iload_n 2, 1) := by decide +kernel
theorem i_79_58 : Jvm.ClassFile.decode (pm_bytes 79) 58 = .ok (.iinc 2 (1), 3) := by decide +kernel
theorem i_79_61 : Jvm.ClassFile.decode (pm_bytes 79) 61 = .ok (.aload_n 0, 1) := by decide +kernel
theorem i_79_62 : Jvm.ClassFile.decode (pm_bytes 79) 62 = .ok (.getfield 35, 3) := by decide +kernel
theorem i_79_65 : Jvm.ClassFile.decode (pm_bytes 79) 65 = .ok (.iload_n 3, 1) := by decide +kernel
theorem i_79_66 : Jvm.ClassFile.decode (pm_bytes 79) 66 = .ok (.iaload, 1) := by decide +kernel
theorem i_79_67 : Jvm.ClassFile.decode (pm_bytes 79) 67 = .ok (.iastore, 1) := by decide +kernel
theorem i_79_68 : Jvm.ClassFile.decode (pm_bytes 79) 68 = .ok (.iinc 3 (1), 3) := by decide +kernel
theorem i_79_71 : Jvm.ClassFile.decode (pm_bytes 79) 71 = .ok (.goto (-31), 3) := by decide +kernel
theorem i_79_74 : Jvm.ClassFile.decode (pm_bytes 79) 74 = .ok (.aload_n 0, 1) := by decide +kernel
theorem i_79_75 : Jvm.ClassFile.decode (pm_bytes 79) 75 = .ok (.aload_n 0, 1) := by decide +kernel
theorem i_79_76 : Jvm.ClassFile.decode (pm_bytes 79) 76 = .ok (.getfield 48, 3) := by decide +kernel
theorem i_79_79 : Jvm.ClassFile.decode (pm_bytes 79) 79 = .ok (.iload_n 2, 1) := by decide +kernel
theorem i_79_80 : Jvm.ClassFile.decode (pm_bytes 79) 80 = .ok (.invokevirtual 76, 3) := by decide +kernel
theorem i_79_83 : Jvm.ClassFile.decode (pm_bytes 79) 83 = .ok (.ifCond .eq (13), 3) := by decide +kernel
theorem i_79_86 : Jvm.ClassFile.decode (pm_bytes 79) 86 = .ok (.aload_n 0, 1) := by decide +kernel
theorem i_79_87 : Jvm.ClassFile.decode (pm_bytes 79) 87 = .ok (.invokevirtual 73, 3) := by decide +kernel
theorem i_79_90 : Jvm.ClassFile.decode (pm_bytes 79) 90 = .ok (.iinc 1 (1), 3) := by decide +kernel
theorem i_79_93 : Jvm.ClassFile.decode (pm_bytes 79) 93 = .ok (.goto (33), 3) := by decide +kernel
theorem i_79_96 : Jvm.ClassFile.decode (pm_bytes 79) 96 = .ok (.aload_n 0, 1) := by decide +kernel
theorem i_79_97 : Jvm.ClassFile.decode (pm_bytes 79) 97 = .ok (.iload_n 2, 1) := by decide +kernel
theorem i_79_98 : Jvm.ClassFile.decode (pm_bytes 79) 98 = .ok (.putfield 19, 3) := by decide +kernel
theorem i_79_101 : Jvm.ClassFile.decode (pm_bytes 79) 101 = .ok (.iconst 0, 1) := by decide +kernel
theorem i_79_102 : Jvm.ClassFile.decode (pm_bytes 79) 102 = .ok (.istore_n 3, 1) := by decide +kernel
theorem i_79_103 : Jvm.ClassFile.decode (pm_bytes 79) 103 = .ok (.iload_n 3, 1) := by decide +kernel
theorem i_79_104 : Jvm.ClassFile.decode (pm_bytes 79) 104 = .ok (.iload_n 2, 1) := by decide +kernel
theorem i_79_105 : Jvm.ClassFile.decode (pm_bytes 79) 105 = .ok (.if_icmp .ge (21), 3) := by decide +kernel
theorem i_79_108 : Jvm.ClassFile.decode (pm_bytes 79) 108 = .ok (.aload_n 0, 1) := by decide +kernel
theorem i_79_109 : Jvm.ClassFile.decode (pm_bytes 79) 109 = .ok (.getfield 35, 3) := by decide +kernel
theorem i_79_112 : Jvm.ClassFile.decode (pm_bytes 79) 112 = .ok (.iload_n 3, 1) := by decide +kernel
theorem i_79_113 : Jvm.ClassFile.decode (pm_bytes 79) 113 = .ok (.aload_n 0, 1) := by decide +kernel
theorem i_79_114 : Jvm.ClassFile.decode (pm_bytes 79) 114 = .ok (.getfield 48, 3) := by decide +kernel
theorem i_79_117 : Jvm.ClassFile.decode (pm_bytes 79) 117 = .ok (.iload_n 3, 1) := by decide +kernel
theorem i_79_118 : Jvm.ClassFile.decode (pm_bytes 79) 118 = .ok (.iaload, 1) := by decide +kernel
theorem i_79_119 : Jvm.ClassFile.decode (pm_bytes 79) 119 = .ok (.iastore, 1) := by decide +kernel
theorem i_79_120 : Jvm.ClassFile.decode (pm_bytes 79) 120 = .ok (.iinc 3 (1), 3) := by decide +kernel
theorem i_79_123 : Jvm.ClassFile.decode (pm_bytes 79) 123 = .ok (.goto (-20), 3) := by decide +kernel
theorem i_79_126 : Jvm.ClassFile.decode (pm_bytes 79) 126 = .ok (.goto (-98), 3) := by decide +kernel
theorem i_79_129 : Jvm.ClassFile.decode (pm_bytes 79) 129 = .ok (.aload_n 0, 1) := by decide +kernel
theorem i_79_130 : Jvm.ClassFile.decode (pm_bytes 79) 130 = .ok (.getfield 19, 3) := by decide +kernel
theorem i_79_133 : Jvm.ClassFile.decode (pm_bytes 79) 133 = .ok (.ireturn, 1) := by decide +kernel
end
section
/-! fetch rows of the methods 80 to 94, laid by wip/whole/gen/fetch.py -/
theorem f_80_7 : (pm_own 80, 7, 6, 0) ∈ pm_fld := f6_7
theorem f_80_19 : (pm_own 80, 19, 6, 3) ∈ pm_fld := f6_19
theorem f_80_35 : (pm_own 80, 35, 6, 8) ∈ pm_fld := f6_35
theorem k_80_51 : (pm_own 80, 51, 64, 3, (some 6 : Option Nat)) ∈ pm_call := k6_51
theorem m_80 : pm_mL 80 = 2 := rfl
theorem r_80 : pm_ret 80 = 1 := rfl
theorem i_80_0 : Jvm.ClassFile.decode (pm_bytes 80) 0 = .ok (.aload_n 0, 1) := by decide +kernel
theorem i_80_1 : Jvm.ClassFile.decode (pm_bytes 80) 1 = .ok (.iconst 0, 1) := by decide +kernel
theorem i_80_2 : Jvm.ClassFile.decode (pm_bytes 80) 2 = .ok (.putfield 7, 3) := by decide +kernel
theorem i_80_5 : Jvm.ClassFile.decode (pm_bytes 80) 5 = .ok (.aload_n 0, 1) := by decide +kernel
theorem i_80_6 : Jvm.ClassFile.decode (pm_bytes 80) 6 = .ok (.iconst 1, 1) := by decide +kernel
theorem i_80_7 : Jvm.ClassFile.decode (pm_bytes 80) 7 = .ok (.iload_n 1, 1) := by decide +kernel
theorem i_80_8 : Jvm.ClassFile.decode (pm_bytes 80) 8 = .ok (.ifCond .lt (11), 3) := by decide +kernel
theorem i_80_11 : Jvm.ClassFile.decode (pm_bytes 80) 11 = .ok (.iload_n 1, 1) := by decide +kernel
theorem i_80_12 : Jvm.ClassFile.decode (pm_bytes 80) 12 = .ok (.aload_n 0, 1) := by decide +kernel
theorem i_80_13 : Jvm.ClassFile.decode (pm_bytes 80) 13 = .ok (.getfield 19, 3) := by decide +kernel
theorem i_80_16 : Jvm.ClassFile.decode (pm_bytes 80) 16 = .ok (.if_icmp .lt (7), 3) := by decide +kernel
theorem i_80_19 : Jvm.ClassFile.decode (pm_bytes 80) 19 = .ok (.iconst 1, 1) := by decide +kernel
theorem i_80_20 : Jvm.ClassFile.decode (pm_bytes 80) 20 = .ok (.goto (4), 3) := by decide +kernel
theorem i_80_23 : Jvm.ClassFile.decode (pm_bytes 80) 23 = .ok (.iconst 0, 1) := by decide +kernel
theorem i_80_24 : Jvm.ClassFile.decode (pm_bytes 80) 24 = .ok (.invokevirtual 51, 3) := by decide +kernel
theorem i_80_27 : Jvm.ClassFile.decode (pm_bytes 80) 27 = .ok (.ifCond .eq (5), 3) := by decide +kernel
theorem i_80_30 : Jvm.ClassFile.decode (pm_bytes 80) 30 = .ok (.iconst 0, 1) := by decide +kernel
theorem i_80_31 : Jvm.ClassFile.decode (pm_bytes 80) 31 = .ok (.ireturn, 1) := by decide +kernel
theorem i_80_32 : Jvm.ClassFile.decode (pm_bytes 80) 32 = .ok (.aload_n 0, 1) := by decide +kernel
theorem i_80_33 : Jvm.ClassFile.decode (pm_bytes 80) 33 = .ok (.getfield 35, 3) := by decide +kernel
theorem i_80_36 : Jvm.ClassFile.decode (pm_bytes 80) 36 = .ok (.iload_n 1, 1) := by decide +kernel
theorem i_80_37 : Jvm.ClassFile.decode (pm_bytes 80) 37 = .ok (.iaload, 1) := by decide +kernel
theorem i_80_38 : Jvm.ClassFile.decode (pm_bytes 80) 38 = .ok (.ireturn, 1) := by decide +kernel
theorem f_81_7 : (pm_own 81, 7, 6, 0) ∈ pm_fld := f6_7
theorem f_81_45 : (pm_own 81, 45, 6, 11) ∈ pm_fld := f6_45
theorem k_81_51 : (pm_own 81, 51, 64, 3, (some 6 : Option Nat)) ∈ pm_call := k6_51
theorem k_81_59 : (pm_own 81, 59, 65, 2, (some 6 : Option Nat)) ∈ pm_call := k6_59
theorem k_81_63 : (pm_own 81, 63, 75, 1, (some 6 : Option Nat)) ∈ pm_call := k6_63
theorem k_81_66 : (pm_own 81, 66, 73, 1, (some 6 : Option Nat)) ∈ pm_call := k6_66
theorem k_81_69 : (pm_own 81, 69, 74, 1, (some 6 : Option Nat)) ∈ pm_call := k6_69
theorem k_81_73 : (pm_own 81, 73, 76, 1, (some 6 : Option Nat)) ∈ pm_call := k6_73
theorem m_81 : pm_mL 81 = 4 := rfl
theorem r_81 : pm_ret 81 = 2 := rfl
theorem i_81_0 : Jvm.ClassFile.decode (pm_bytes 81) 0 = .ok (.aload_n 0, 1) := by decide +kernel
theorem i_81_1 : Jvm.ClassFile.decode (pm_bytes 81) 1 = .ok (.iconst 0, 1) := by decide +kernel
theorem i_81_2 : Jvm.ClassFile.decode (pm_bytes 81) 2 = .ok (.putfield 7, 3) := by decide +kernel
theorem i_81_5 : Jvm.ClassFile.decode (pm_bytes 81) 5 = .ok (.aload_n 0, 1) := by decide +kernel
theorem i_81_6 : Jvm.ClassFile.decode (pm_bytes 81) 6 = .ok (.iconst 1, 1) := by decide +kernel
theorem i_81_7 : Jvm.ClassFile.decode (pm_bytes 81) 7 = .ok (.aload_n 0, 1) := by decide +kernel
theorem i_81_8 : Jvm.ClassFile.decode (pm_bytes 81) 8 = .ok (.iload_n 1, 1) := by decide +kernel
theorem i_81_9 : Jvm.ClassFile.decode (pm_bytes 81) 9 = .ok (.invokevirtual 59, 3) := by decide +kernel
theorem i_81_12 : Jvm.ClassFile.decode (pm_bytes 81) 12 = .ok (.ifCond .ne (11), 3) := by decide +kernel
theorem i_81_15 : Jvm.ClassFile.decode (pm_bytes 81) 15 = .ok (.aload_n 0, 1) := by decide +kernel
theorem i_81_16 : Jvm.ClassFile.decode (pm_bytes 81) 16 = .ok (.iload_n 2, 1) := by decide +kernel
theorem i_81_17 : Jvm.ClassFile.decode (pm_bytes 81) 17 = .ok (.invokevirtual 59, 3) := by decide +kernel
theorem i_81_20 : Jvm.ClassFile.decode (pm_bytes 81) 20 = .ok (.ifCond .eq (7), 3) := by decide +kernel
theorem i_81_23 : Jvm.ClassFile.decode (pm_bytes 81) 23 = .ok (.iconst 1, 1) := by decide +kernel
theorem i_81_24 : Jvm.ClassFile.decode (pm_bytes 81) 24 = .ok (.goto (4), 3) := by decide +kernel
theorem i_81_27 : Jvm.ClassFile.decode (pm_bytes 81) 27 = .ok (.iconst 0, 1) := by decide +kernel
theorem i_81_28 : Jvm.ClassFile.decode (pm_bytes 81) 28 = .ok (.invokevirtual 51, 3) := by decide +kernel
theorem i_81_31 : Jvm.ClassFile.decode (pm_bytes 81) 31 = .ok (.ifCond .eq (5), 3) := by decide +kernel
theorem i_81_34 : Jvm.ClassFile.decode (pm_bytes 81) 34 = .ok (.iconst 0, 1) := by decide +kernel
theorem i_81_35 : Jvm.ClassFile.decode (pm_bytes 81) 35 = .ok (.ireturn, 1) := by decide +kernel
theorem i_81_36 : Jvm.ClassFile.decode (pm_bytes 81) 36 = .ok (.aload_n 0, 1) := by decide +kernel
theorem i_81_37 : Jvm.ClassFile.decode (pm_bytes 81) 37 = .ok (.invokevirtual 63, 3) := by decide +kernel
theorem i_81_40 : Jvm.ClassFile.decode (pm_bytes 81) 40 = .ok (.iconst 1, 1) := by decide +kernel
theorem i_81_41 : Jvm.ClassFile.decode (pm_bytes 81) 41 = .ok (.istore_n 3, 1) := by decide +kernel
theorem i_81_42 : Jvm.ClassFile.decode (pm_bytes 81) 42 = .ok (.iload_n 3, 1) := by decide +kernel
theorem i_81_43 : Jvm.ClassFile.decode (pm_bytes 81) 43 = .ok (.ifCond .eq (32), 3) := by decide +kernel
theorem i_81_46 : Jvm.ClassFile.decode (pm_bytes 81) 46 = .ok (.aload_n 0, 1) := by decide +kernel
theorem i_81_47 : Jvm.ClassFile.decode (pm_bytes 81) 47 = .ok (.invokevirtual 66, 3) := by decide +kernel
theorem i_81_50 : Jvm.ClassFile.decode (pm_bytes 81) 50 = .ok (.aload_n 0, 1) := by decide +kernel
theorem i_81_51 : Jvm.ClassFile.decode (pm_bytes 81) 51 = .ok (.getfield 45, 3) := by decide +kernel
theorem i_81_54 : Jvm.ClassFile.decode (pm_bytes 81) 54 = .ok (.iload_n 1, 1) := by decide +kernel
theorem i_81_55 : Jvm.ClassFile.decode (pm_bytes 81) 55 = .ok (.baload, 1) := by decide +kernel
theorem i_81_56 : Jvm.ClassFile.decode (pm_bytes 81) 56 = .ok (.aload_n 0, 1) := by decide +kernel
theorem i_81_57 : Jvm.ClassFile.decode (pm_bytes 81) 57 = .ok (.getfield 45, 3) := by decide +kernel
theorem i_81_60 : Jvm.ClassFile.decode (pm_bytes 81) 60 = .ok (.iload_n 2, 1) := by decide +kernel
theorem i_81_61 : Jvm.ClassFile.decode (pm_bytes 81) 61 = .ok (.baload, 1) := by decide +kernel
theorem i_81_62 : Jvm.ClassFile.decode (pm_bytes 81) 62 = .ok (.if_icmp .eq (5), 3) := by decide +kernel
theorem i_81_65 : Jvm.ClassFile.decode (pm_bytes 81) 65 = .ok (.iconst 0, 1) := by decide +kernel
theorem i_81_66 : Jvm.ClassFile.decode (pm_bytes 81) 66 = .ok (.ireturn, 1) := by decide +kernel
theorem i_81_67 : Jvm.ClassFile.decode (pm_bytes 81) 67 = .ok (.aload_n 0, 1) := by decide +kernel
theorem i_81_68 : Jvm.ClassFile.decode (pm_bytes 81) 68 = .ok (.invokevirtual 69, 3) := by decide +kernel
theorem i_81_71 : Jvm.ClassFile.decode (pm_bytes 81) 71 = .ok (.istore_n 3, 1) := by decide +kernel
theorem i_81_72 : Jvm.ClassFile.decode (pm_bytes 81) 72 = .ok (.goto (-30), 3) := by decide +kernel
theorem i_81_75 : Jvm.ClassFile.decode (pm_bytes 81) 75 = .ok (.aload_n 0, 1) := by decide +kernel
theorem i_81_76 : Jvm.ClassFile.decode (pm_bytes 81) 76 = .ok (.invokevirtual 73, 3) := by decide +kernel
theorem i_81_79 : Jvm.ClassFile.decode (pm_bytes 81) 79 = .ok (.iconst 1, 1) := by decide +kernel
theorem i_81_80 : Jvm.ClassFile.decode (pm_bytes 81) 80 = .ok (.ireturn, 1) := by decide +kernel
theorem f_82_7 : (pm_own 82, 7, 6, 0) ∈ pm_fld := f6_7
theorem f_82_16 : (pm_own 82, 16, 6, 2) ∈ pm_fld := f6_16
theorem f_82_38 : (pm_own 82, 38, 6, 9) ∈ pm_fld := f6_38
theorem k_82_51 : (pm_own 82, 51, 64, 3, (some 6 : Option Nat)) ∈ pm_call := k6_51
theorem m_82 : pm_mL 82 = 4 := rfl
theorem r_82 : pm_ret 82 = 2 := rfl
theorem i_82_0 : Jvm.ClassFile.decode (pm_bytes 82) 0 = .ok (.aload_n 0, 1) := by decide +kernel
theorem i_82_1 : Jvm.ClassFile.decode (pm_bytes 82) 1 = .ok (.iconst 0, 1) := by decide +kernel
theorem i_82_2 : Jvm.ClassFile.decode (pm_bytes 82) 2 = .ok (.putfield 7, 3) := by decide +kernel
theorem i_82_5 : Jvm.ClassFile.decode (pm_bytes 82) 5 = .ok (.aload_n 0, 1) := by decide +kernel
theorem i_82_6 : Jvm.ClassFile.decode (pm_bytes 82) 6 = .ok (.iconst 1, 1) := by decide +kernel
theorem i_82_7 : Jvm.ClassFile.decode (pm_bytes 82) 7 = .ok (.iload_n 1, 1) := by decide +kernel
theorem i_82_8 : Jvm.ClassFile.decode (pm_bytes 82) 8 = .ok (.ifCond .lt (11), 3) := by decide +kernel
theorem i_82_11 : Jvm.ClassFile.decode (pm_bytes 82) 11 = .ok (.iload_n 1, 1) := by decide +kernel
theorem i_82_12 : Jvm.ClassFile.decode (pm_bytes 82) 12 = .ok (.aload_n 0, 1) := by decide +kernel
theorem i_82_13 : Jvm.ClassFile.decode (pm_bytes 82) 13 = .ok (.getfield 16, 3) := by decide +kernel
theorem i_82_16 : Jvm.ClassFile.decode (pm_bytes 82) 16 = .ok (.if_icmp .lt (7), 3) := by decide +kernel
theorem i_82_19 : Jvm.ClassFile.decode (pm_bytes 82) 19 = .ok (.iconst 1, 1) := by decide +kernel
theorem i_82_20 : Jvm.ClassFile.decode (pm_bytes 82) 20 = .ok (.goto (4), 3) := by decide +kernel
theorem i_82_23 : Jvm.ClassFile.decode (pm_bytes 82) 23 = .ok (.iconst 0, 1) := by decide +kernel
theorem i_82_24 : Jvm.ClassFile.decode (pm_bytes 82) 24 = .ok (.invokevirtual 51, 3) := by decide +kernel
theorem i_82_27 : Jvm.ClassFile.decode (pm_bytes 82) 27 = .ok (.ifCond .eq (5), 3) := by decide +kernel
theorem i_82_30 : Jvm.ClassFile.decode (pm_bytes 82) 30 = .ok (.iconst 0, 1) := by decide +kernel
theorem i_82_31 : Jvm.ClassFile.decode (pm_bytes 82) 31 = .ok (.ireturn, 1) := by decide +kernel
theorem i_82_32 : Jvm.ClassFile.decode (pm_bytes 82) 32 = .ok (.aload_n 0, 1) := by decide +kernel
theorem i_82_33 : Jvm.ClassFile.decode (pm_bytes 82) 33 = .ok (.getfield 38, 3) := by decide +kernel
theorem i_82_36 : Jvm.ClassFile.decode (pm_bytes 82) 36 = .ok (.iload_n 1, 1) := by decide +kernel
theorem i_82_37 : Jvm.ClassFile.decode (pm_bytes 82) 37 = .ok (.baload, 1) := by decide +kernel
theorem i_82_38 : Jvm.ClassFile.decode (pm_bytes 82) 38 = .ok (.istore_n 3, 1) := by decide +kernel
theorem i_82_39 : Jvm.ClassFile.decode (pm_bytes 82) 39 = .ok (.aload_n 0, 1) := by decide +kernel
theorem i_82_40 : Jvm.ClassFile.decode (pm_bytes 82) 40 = .ok (.getfield 38, 3) := by decide +kernel
theorem i_82_43 : Jvm.ClassFile.decode (pm_bytes 82) 43 = .ok (.iload_n 1, 1) := by decide +kernel
theorem i_82_44 : Jvm.ClassFile.decode (pm_bytes 82) 44 = .ok (.iload_n 2, 1) := by decide +kernel
theorem i_82_45 : Jvm.ClassFile.decode (pm_bytes 82) 45 = .ok (.bastore, 1) := by decide +kernel
theorem i_82_46 : Jvm.ClassFile.decode (pm_bytes 82) 46 = .ok (.iload_n 3, 1) := by decide +kernel
theorem i_82_47 : Jvm.ClassFile.decode (pm_bytes 82) 47 = .ok (.ireturn, 1) := by decide +kernel
theorem f_83_7 : (pm_own 83, 7, 6, 0) ∈ pm_fld := f6_7
theorem f_83_45 : (pm_own 83, 45, 6, 11) ∈ pm_fld := f6_45
theorem k_83_51 : (pm_own 83, 51, 64, 3, (some 6 : Option Nat)) ∈ pm_call := k6_51
theorem k_83_59 : (pm_own 83, 59, 65, 2, (some 6 : Option Nat)) ∈ pm_call := k6_59
theorem k_83_66 : (pm_own 83, 66, 73, 1, (some 6 : Option Nat)) ∈ pm_call := k6_66
theorem m_83 : pm_mL 83 = 2 := rfl
theorem r_83 : pm_ret 83 = 2 := rfl
theorem i_83_0 : Jvm.ClassFile.decode (pm_bytes 83) 0 = .ok (.aload_n 0, 1) := by decide +kernel
theorem i_83_1 : Jvm.ClassFile.decode (pm_bytes 83) 1 = .ok (.iconst 0, 1) := by decide +kernel
theorem i_83_2 : Jvm.ClassFile.decode (pm_bytes 83) 2 = .ok (.putfield 7, 3) := by decide +kernel
theorem i_83_5 : Jvm.ClassFile.decode (pm_bytes 83) 5 = .ok (.aload_n 0, 1) := by decide +kernel
theorem i_83_6 : Jvm.ClassFile.decode (pm_bytes 83) 6 = .ok (.iconst 1, 1) := by decide +kernel
theorem i_83_7 : Jvm.ClassFile.decode (pm_bytes 83) 7 = .ok (.aload_n 0, 1) := by decide +kernel
theorem i_83_8 : Jvm.ClassFile.decode (pm_bytes 83) 8 = .ok (.iload_n 1, 1) := by decide +kernel
theorem i_83_9 : Jvm.ClassFile.decode (pm_bytes 83) 9 = .ok (.invokevirtual 59, 3) := by decide +kernel
theorem i_83_12 : Jvm.ClassFile.decode (pm_bytes 83) 12 = .ok (.invokevirtual 51, 3) := by decide +kernel
theorem i_83_15 : Jvm.ClassFile.decode (pm_bytes 83) 15 = .ok (.ifCond .eq (5), 3) := by decide +kernel
theorem i_83_18 : Jvm.ClassFile.decode (pm_bytes 83) 18 = .ok (.iconst 0, 1) := by decide +kernel
theorem i_83_19 : Jvm.ClassFile.decode (pm_bytes 83) 19 = .ok (.ireturn, 1) := by decide +kernel
theorem i_83_20 : Jvm.ClassFile.decode (pm_bytes 83) 20 = .ok (.aload_n 0, 1) := by decide +kernel
theorem i_83_21 : Jvm.ClassFile.decode (pm_bytes 83) 21 = .ok (.invokevirtual 66, 3) := by decide +kernel
theorem i_83_24 : Jvm.ClassFile.decode (pm_bytes 83) 24 = .ok (.aload_n 0, 1) := by decide +kernel
theorem i_83_25 : Jvm.ClassFile.decode (pm_bytes 83) 25 = .ok (.getfield 45, 3) := by decide +kernel
theorem i_83_28 : Jvm.ClassFile.decode (pm_bytes 83) 28 = .ok (.iload_n 1, 1) := by decide +kernel
theorem i_83_29 : Jvm.ClassFile.decode (pm_bytes 83) 29 = .ok (.baload, 1) := by decide +kernel
theorem i_83_30 : Jvm.ClassFile.decode (pm_bytes 83) 30 = .ok (.ireturn, 1) := by decide +kernel
theorem f_84_7 : (pm_own 84, 7, 6, 0) ∈ pm_fld := f6_7
theorem m_84 : pm_mL 84 = 1 := rfl
theorem r_84 : pm_ret 84 = 1 := rfl
theorem i_84_0 : Jvm.ClassFile.decode (pm_bytes 84) 0 = .ok (.aload_n 0, 1) := by decide +kernel
theorem i_84_1 : Jvm.ClassFile.decode (pm_bytes 84) 1 = .ok (.iconst 0, 1) := by decide +kernel
theorem i_84_2 : Jvm.ClassFile.decode (pm_bytes 84) 2 = .ok (.putfield 7, 3) := by decide +kernel
theorem i_84_5 : Jvm.ClassFile.decode (pm_bytes 84) 5 = .ok (.iconst 0, 1) := by decide +kernel
theorem i_84_6 : Jvm.ClassFile.decode (pm_bytes 84) 6 = .ok (.ireturn, 1) := by decide +kernel
theorem f_85_7 : (pm_own 85, 7, 6, 0) ∈ pm_fld := f6_7
theorem f_85_13 : (pm_own 85, 13, 6, 1) ∈ pm_fld := f6_13
theorem f_85_16 : (pm_own 85, 16, 6, 2) ∈ pm_fld := f6_16
theorem f_85_19 : (pm_own 85, 19, 6, 3) ∈ pm_fld := f6_19
theorem m_85 : pm_mL 85 = 2 := rfl
theorem r_85 : pm_ret 85 = 1 := rfl
theorem i_85_0 : Jvm.ClassFile.decode (pm_bytes 85) 0 = .ok (.aload_n 0, 1) := by decide +kernel
theorem i_85_1 : Jvm.ClassFile.decode (pm_bytes 85) 1 = .ok (.iconst 0, 1) := by decide +kernel
theorem i_85_2 : Jvm.ClassFile.decode (pm_bytes 85) 2 = .ok (.putfield 7, 3) := by decide +kernel
theorem i_85_5 : Jvm.ClassFile.decode (pm_bytes 85) 5 = .ok (.iload_n 1, 1) := by decide +kernel
theorem i_85_6 : Jvm.ClassFile.decode (pm_bytes 85) 6 = .ok (.tableswitch (41) (0) (2) #[26, 31, 36], 26) := by decide +kernel
theorem i_85_32 : Jvm.ClassFile.decode (pm_bytes 85) 32 = .ok (.aload_n 0, 1) := by decide +kernel
theorem i_85_33 : Jvm.ClassFile.decode (pm_bytes 85) 33 = .ok (.getfield 13, 3) := by decide +kernel
theorem i_85_36 : Jvm.ClassFile.decode (pm_bytes 85) 36 = .ok (.ireturn, 1) := by decide +kernel
theorem i_85_37 : Jvm.ClassFile.decode (pm_bytes 85) 37 = .ok (.aload_n 0, 1) := by decide +kernel
theorem i_85_38 : Jvm.ClassFile.decode (pm_bytes 85) 38 = .ok (.getfield 16, 3) := by decide +kernel
theorem i_85_41 : Jvm.ClassFile.decode (pm_bytes 85) 41 = .ok (.ireturn, 1) := by decide +kernel
theorem i_85_42 : Jvm.ClassFile.decode (pm_bytes 85) 42 = .ok (.aload_n 0, 1) := by decide +kernel
theorem i_85_43 : Jvm.ClassFile.decode (pm_bytes 85) 43 = .ok (.getfield 19, 3) := by decide +kernel
theorem i_85_46 : Jvm.ClassFile.decode (pm_bytes 85) 46 = .ok (.ireturn, 1) := by decide +kernel
theorem i_85_47 : Jvm.ClassFile.decode (pm_bytes 85) 47 = .ok (.iconst (-1), 1) := by decide +kernel
theorem i_85_48 : Jvm.ClassFile.decode (pm_bytes 85) 48 = .ok (.ireturn, 1) := by decide +kernel
theorem k_86_7 : (pm_own 86, 7, 0, 1, (some 0 : Option Nat)) ∈ pm_call := k7_7
theorem m_86 : pm_mL 86 = 3 := rfl
theorem r_86 : pm_ret 86 = 1 := rfl
theorem i_86_0 : Jvm.ClassFile.decode (pm_bytes 86) 0 = .ok (.aload_n 1, 1) := by decide +kernel
theorem i_86_1 : Jvm.ClassFile.decode (pm_bytes 86) 1 = .ok (.iconst 0, 1) := by decide +kernel
theorem i_86_2 : Jvm.ClassFile.decode (pm_bytes 86) 2 = .ok (.aload_n 0, 1) := by decide +kernel
theorem i_86_3 : Jvm.ClassFile.decode (pm_bytes 86) 3 = .ok (.invokevirtual 7, 3) := by decide +kernel
theorem i_86_6 : Jvm.ClassFile.decode (pm_bytes 86) 6 = .ok (.i2l, 1) := by decide +kernel
theorem i_86_7 : Jvm.ClassFile.decode (pm_bytes 86) 7 = .ok (.lastore, 1) := by decide +kernel
theorem i_86_8 : Jvm.ClassFile.decode (pm_bytes 86) 8 = .ok (.goto (6), 3) := by decide +kernel
theorem i_86_12 : Jvm.ClassFile.decode (pm_bytes 86) 12 = .ok (.iconst 1, 1) := by decide +kernel
theorem i_86_13 : Jvm.ClassFile.decode (pm_bytes 86) 13 = .ok (.ireturn, 1) := by decide +kernel
theorem i_86_14 : Jvm.ClassFile.decode (pm_bytes 86) 14 = .ok (.iconst 0, 1) := by decide +kernel
theorem i_86_15 : Jvm.ClassFile.decode (pm_bytes 86) 15 = .ok (.ireturn, 1) := by decide +kernel
theorem k_87_15 : (pm_own 87, 15, 1, 2, (some 0 : Option Nat)) ∈ pm_call := k7_15
theorem m_87 : pm_mL 87 = 4 := rfl
theorem r_87 : pm_ret 87 = 1 := rfl
theorem i_87_0 : Jvm.ClassFile.decode (pm_bytes 87) 0 = .ok (.aload_n 2, 1) := by decide +kernel
theorem i_87_1 : Jvm.ClassFile.decode (pm_bytes 87) 1 = .ok (.iconst 0, 1) := by decide +kernel
theorem i_87_2 : Jvm.ClassFile.decode (pm_bytes 87) 2 = .ok (.aload_n 0, 1) := by decide +kernel
theorem i_87_3 : Jvm.ClassFile.decode (pm_bytes 87) 3 = .ok (.iload_n 1, 1) := by decide +kernel
theorem i_87_4 : Jvm.ClassFile.decode (pm_bytes 87) 4 = .ok (.invokevirtual 15, 3) := by decide +kernel
theorem i_87_7 : Jvm.ClassFile.decode (pm_bytes 87) 7 = .ok (.i2l, 1) := by decide +kernel
theorem i_87_8 : Jvm.ClassFile.decode (pm_bytes 87) 8 = .ok (.lastore, 1) := by decide +kernel
theorem i_87_9 : Jvm.ClassFile.decode (pm_bytes 87) 9 = .ok (.goto (9), 3) := by decide +kernel
theorem i_87_13 : Jvm.ClassFile.decode (pm_bytes 87) 13 = .ok (.iconst 1, 1) := by decide +kernel
theorem i_87_14 : Jvm.ClassFile.decode (pm_bytes 87) 14 = .ok (.ireturn, 1) := by decide +kernel
theorem i_87_16 : Jvm.ClassFile.decode (pm_bytes 87) 16 = .ok (.iconst 2, 1) := by decide +kernel
theorem i_87_17 : Jvm.ClassFile.decode (pm_bytes 87) 17 = .ok (.ireturn, 1) := by decide +kernel
theorem i_87_18 : Jvm.ClassFile.decode (pm_bytes 87) 18 = .ok (.iconst 0, 1) := by decide +kernel
theorem i_87_19 : Jvm.ClassFile.decode (pm_bytes 87) 19 = .ok (.ireturn, 1) := by decide +kernel
theorem k_88_21 : (pm_own 88, 21, 2, 4, (some 0 : Option Nat)) ∈ pm_call := k7_21
theorem m_88 : pm_mL 88 = 6 := rfl
theorem r_88 : pm_ret 88 = 1 := rfl
theorem i_88_0 : Jvm.ClassFile.decode (pm_bytes 88) 0 = .ok (.aload 4, 2) := by decide +kernel
theorem i_88_2 : Jvm.ClassFile.decode (pm_bytes 88) 2 = .ok (.iconst 0, 1) := by decide +kernel
theorem i_88_3 : Jvm.ClassFile.decode (pm_bytes 88) 3 = .ok (.aload_n 0, 1) := by decide +kernel
theorem i_88_4 : Jvm.ClassFile.decode (pm_bytes 88) 4 = .ok (.iload_n 1, 1) := by decide +kernel
theorem i_88_5 : Jvm.ClassFile.decode (pm_bytes 88) 5 = .ok (.iload_n 2, 1) := by decide +kernel
theorem i_88_6 : Jvm.ClassFile.decode (pm_bytes 88) 6 = .ok (.iload_n 3, 1) := by decide +kernel
theorem i_88_7 : Jvm.ClassFile.decode (pm_bytes 88) 7 = .ok (.invokevirtual 21, 3) := by decide +kernel
theorem i_88_10 : Jvm.ClassFile.decode (pm_bytes 88) 10 = .ok (.i2l, 1) := by decide +kernel
theorem i_88_11 : Jvm.ClassFile.decode (pm_bytes 88) 11 = .ok (.lastore, 1) := by decide +kernel
theorem i_88_12 : Jvm.ClassFile.decode (pm_bytes 88) 12 = .ok (.goto (15), 3) := by decide +kernel
theorem i_88_17 : Jvm.ClassFile.decode (pm_bytes 88) 17 = .ok (.iconst 1, 1) := by decide +kernel
theorem i_88_18 : Jvm.ClassFile.decode (pm_bytes 88) 18 = .ok (.ireturn, 1) := by decide +kernel
theorem i_88_21 : Jvm.ClassFile.decode (pm_bytes 88) 21 = .ok (.iconst 2, 1) := by decide +kernel
theorem i_88_22 : Jvm.ClassFile.decode (pm_bytes 88) 22 = .ok (.ireturn, 1) := by decide +kernel
theorem i_88_25 : Jvm.ClassFile.decode (pm_bytes 88) 25 = .ok (.iconst 3, 1) := by decide +kernel
theorem i_88_26 : Jvm.ClassFile.decode (pm_bytes 88) 26 = .ok (.ireturn, 1) := by decide +kernel
theorem i_88_27 : Jvm.ClassFile.decode (pm_bytes 88) 27 = .ok (.iconst 0, 1) := by decide +kernel
theorem i_88_28 : Jvm.ClassFile.decode (pm_bytes 88) 28 = .ok (.ireturn, 1) := by decide +kernel
theorem k_89_27 : (pm_own 89, 27, 3, 4, (some 0 : Option Nat)) ∈ pm_call := k7_27
theorem m_89 : pm_mL 89 = 6 := rfl
theorem r_89 : pm_ret 89 = 1 := rfl
theorem i_89_0 : Jvm.ClassFile.decode (pm_bytes 89) 0 = .ok (.aload 4, 2) := by decide +kernel
theorem i_89_2 : Jvm.ClassFile.decode (pm_bytes 89) 2 = .ok (.iconst 0, 1) := by decide +kernel
theorem i_89_3 : Jvm.ClassFile.decode (pm_bytes 89) 3 = .ok (.aload_n 0, 1) := by decide +kernel
theorem i_89_4 : Jvm.ClassFile.decode (pm_bytes 89) 4 = .ok (.iload_n 1, 1) := by decide +kernel
theorem i_89_5 : Jvm.ClassFile.decode (pm_bytes 89) 5 = .ok (.iload_n 2, 1) := by decide +kernel
theorem i_89_6 : Jvm.ClassFile.decode (pm_bytes 89) 6 = .ok (.iload_n 3, 1) := by decide +kernel
theorem i_89_7 : Jvm.ClassFile.decode (pm_bytes 89) 7 = .ok (.invokevirtual 27, 3) := by decide +kernel
theorem i_89_10 : Jvm.ClassFile.decode (pm_bytes 89) 10 = .ok (.i2l, 1) := by decide +kernel
theorem i_89_11 : Jvm.ClassFile.decode (pm_bytes 89) 11 = .ok (.lastore, 1) := by decide +kernel
theorem i_89_12 : Jvm.ClassFile.decode (pm_bytes 89) 12 = .ok (.goto (11), 3) := by decide +kernel
theorem i_89_17 : Jvm.ClassFile.decode (pm_bytes 89) 17 = .ok (.iconst 1, 1) := by decide +kernel
theorem i_89_18 : Jvm.ClassFile.decode (pm_bytes 89) 18 = .ok (.ireturn, 1) := by decide +kernel
theorem i_89_21 : Jvm.ClassFile.decode (pm_bytes 89) 21 = .ok (.iconst 2, 1) := by decide +kernel
theorem i_89_22 : Jvm.ClassFile.decode (pm_bytes 89) 22 = .ok (.ireturn, 1) := by decide +kernel
theorem i_89_23 : Jvm.ClassFile.decode (pm_bytes 89) 23 = .ok (.iconst 0, 1) := by decide +kernel
theorem i_89_24 : Jvm.ClassFile.decode (pm_bytes 89) 24 = .ok (.ireturn, 1) := by decide +kernel
theorem k_90_30 : (pm_own 90, 30, 4, 2, (some 0 : Option Nat)) ∈ pm_call := k7_30
theorem m_90 : pm_mL 90 = 4 := rfl
theorem r_90 : pm_ret 90 = 1 := rfl
theorem i_90_0 : Jvm.ClassFile.decode (pm_bytes 90) 0 = .ok (.aload_n 2, 1) := by decide +kernel
theorem i_90_1 : Jvm.ClassFile.decode (pm_bytes 90) 1 = .ok (.iconst 0, 1) := by decide +kernel
theorem i_90_2 : Jvm.ClassFile.decode (pm_bytes 90) 2 = .ok (.aload_n 0, 1) := by decide +kernel
theorem i_90_3 : Jvm.ClassFile.decode (pm_bytes 90) 3 = .ok (.iload_n 1, 1) := by decide +kernel
theorem i_90_4 : Jvm.ClassFile.decode (pm_bytes 90) 4 = .ok (.invokevirtual 30, 3) := by decide +kernel
theorem i_90_7 : Jvm.ClassFile.decode (pm_bytes 90) 7 = .ok (.i2l, 1) := by decide +kernel
theorem i_90_8 : Jvm.ClassFile.decode (pm_bytes 90) 8 = .ok (.lastore, 1) := by decide +kernel
theorem i_90_9 : Jvm.ClassFile.decode (pm_bytes 90) 9 = .ok (.goto (9), 3) := by decide +kernel
theorem i_90_13 : Jvm.ClassFile.decode (pm_bytes 90) 13 = .ok (.iconst 1, 1) := by decide +kernel
theorem i_90_14 : Jvm.ClassFile.decode (pm_bytes 90) 14 = .ok (.ireturn, 1) := by decide +kernel
theorem i_90_16 : Jvm.ClassFile.decode (pm_bytes 90) 16 = .ok (.iconst 2, 1) := by decide +kernel
theorem i_90_17 : Jvm.ClassFile.decode (pm_bytes 90) 17 = .ok (.ireturn, 1) := by decide +kernel
theorem i_90_18 : Jvm.ClassFile.decode (pm_bytes 90) 18 = .ok (.iconst 0, 1) := by decide +kernel
theorem i_90_19 : Jvm.ClassFile.decode (pm_bytes 90) 19 = .ok (.ireturn, 1) := by decide +kernel
theorem k_91_33 : (pm_own 91, 33, 8, 2, (some 0 : Option Nat)) ∈ pm_call := k7_33
theorem m_91 : pm_mL 91 = 4 := rfl
theorem r_91 : pm_ret 91 = 1 := rfl
theorem i_91_0 : Jvm.ClassFile.decode (pm_bytes 91) 0 = .ok (.aload_n 2, 1) := by decide +kernel
theorem i_91_1 : Jvm.ClassFile.decode (pm_bytes 91) 1 = .ok (.iconst 0, 1) := by decide +kernel
theorem i_91_2 : Jvm.ClassFile.decode (pm_bytes 91) 2 = .ok (.aload_n 0, 1) := by decide +kernel
theorem i_91_3 : Jvm.ClassFile.decode (pm_bytes 91) 3 = .ok (.iload_n 1, 1) := by decide +kernel
theorem i_91_4 : Jvm.ClassFile.decode (pm_bytes 91) 4 = .ok (.invokevirtual 33, 3) := by decide +kernel
theorem i_91_7 : Jvm.ClassFile.decode (pm_bytes 91) 7 = .ok (.i2l, 1) := by decide +kernel
theorem i_91_8 : Jvm.ClassFile.decode (pm_bytes 91) 8 = .ok (.lastore, 1) := by decide +kernel
theorem i_91_9 : Jvm.ClassFile.decode (pm_bytes 91) 9 = .ok (.goto (6), 3) := by decide +kernel
theorem i_91_13 : Jvm.ClassFile.decode (pm_bytes 91) 13 = .ok (.iconst 1, 1) := by decide +kernel
theorem i_91_14 : Jvm.ClassFile.decode (pm_bytes 91) 14 = .ok (.ireturn, 1) := by decide +kernel
theorem i_91_15 : Jvm.ClassFile.decode (pm_bytes 91) 15 = .ok (.iconst 0, 1) := by decide +kernel
theorem i_91_16 : Jvm.ClassFile.decode (pm_bytes 91) 16 = .ok (.ireturn, 1) := by decide +kernel
theorem k_92_36 : (pm_own 92, 36, 9, 3, (some 0 : Option Nat)) ∈ pm_call := k7_36
theorem m_92 : pm_mL 92 = 5 := rfl
theorem r_92 : pm_ret 92 = 1 := rfl
theorem i_92_0 : Jvm.ClassFile.decode (pm_bytes 92) 0 = .ok (.aload_n 3, 1) := by decide +kernel
theorem i_92_1 : Jvm.ClassFile.decode (pm_bytes 92) 1 = .ok (.iconst 0, 1) := by decide +kernel
theorem i_92_2 : Jvm.ClassFile.decode (pm_bytes 92) 2 = .ok (.aload_n 0, 1) := by decide +kernel
theorem i_92_3 : Jvm.ClassFile.decode (pm_bytes 92) 3 = .ok (.iload_n 1, 1) := by decide +kernel
theorem i_92_4 : Jvm.ClassFile.decode (pm_bytes 92) 4 = .ok (.iload_n 2, 1) := by decide +kernel
theorem i_92_5 : Jvm.ClassFile.decode (pm_bytes 92) 5 = .ok (.invokevirtual 36, 3) := by decide +kernel
theorem i_92_8 : Jvm.ClassFile.decode (pm_bytes 92) 8 = .ok (.ifCond .eq (7), 3) := by decide +kernel
theorem i_92_11 : Jvm.ClassFile.decode (pm_bytes 92) 11 = .ok (.lconst 1, 1) := by decide +kernel
theorem i_92_12 : Jvm.ClassFile.decode (pm_bytes 92) 12 = .ok (.goto (4), 3) := by decide +kernel
theorem i_92_15 : Jvm.ClassFile.decode (pm_bytes 92) 15 = .ok (.lconst 0, 1) := by decide +kernel
theorem i_92_16 : Jvm.ClassFile.decode (pm_bytes 92) 16 = .ok (.lastore, 1) := by decide +kernel
theorem i_92_17 : Jvm.ClassFile.decode (pm_bytes 92) 17 = .ok (.goto (7), 3) := by decide +kernel
theorem i_92_22 : Jvm.ClassFile.decode (pm_bytes 92) 22 = .ok (.iconst 1, 1) := by decide +kernel
theorem i_92_23 : Jvm.ClassFile.decode (pm_bytes 92) 23 = .ok (.ireturn, 1) := by decide +kernel
theorem i_92_24 : Jvm.ClassFile.decode (pm_bytes 92) 24 = .ok (.iconst 0, 1) := by decide +kernel
theorem i_92_25 : Jvm.ClassFile.decode (pm_bytes 92) 25 = .ok (.ireturn, 1) := by decide +kernel
theorem k_93_40 : (pm_own 93, 40, 10, 3, (some 0 : Option Nat)) ∈ pm_call := k7_40
theorem m_93 : pm_mL 93 = 5 := rfl
theorem r_93 : pm_ret 93 = 1 := rfl
theorem i_93_0 : Jvm.ClassFile.decode (pm_bytes 93) 0 = .ok (.aload_n 3, 1) := by decide +kernel
theorem i_93_1 : Jvm.ClassFile.decode (pm_bytes 93) 1 = .ok (.iconst 0, 1) := by decide +kernel
theorem i_93_2 : Jvm.ClassFile.decode (pm_bytes 93) 2 = .ok (.aload_n 0, 1) := by decide +kernel
theorem i_93_3 : Jvm.ClassFile.decode (pm_bytes 93) 3 = .ok (.iload_n 1, 1) := by decide +kernel
theorem i_93_4 : Jvm.ClassFile.decode (pm_bytes 93) 4 = .ok (.iload_n 2, 1) := by decide +kernel
theorem i_93_5 : Jvm.ClassFile.decode (pm_bytes 93) 5 = .ok (.invokevirtual 40, 3) := by decide +kernel
theorem i_93_8 : Jvm.ClassFile.decode (pm_bytes 93) 8 = .ok (.ifCond .eq (7), 3) := by decide +kernel
theorem i_93_11 : Jvm.ClassFile.decode (pm_bytes 93) 11 = .ok (.lconst 1, 1) := by decide +kernel
theorem i_93_12 : Jvm.ClassFile.decode (pm_bytes 93) 12 = .ok (.goto (4), 3) := by decide +kernel
theorem i_93_15 : Jvm.ClassFile.decode (pm_bytes 93) 15 = .ok (.lconst 0, 1) := by decide +kernel
theorem i_93_16 : Jvm.ClassFile.decode (pm_bytes 93) 16 = .ok (.lastore, 1) := by decide +kernel
theorem i_93_17 : Jvm.ClassFile.decode (pm_bytes 93) 17 = .ok (.goto (7), 3) := by decide +kernel
theorem i_93_22 : Jvm.ClassFile.decode (pm_bytes 93) 22 = .ok (.iconst 1, 1) := by decide +kernel
theorem i_93_23 : Jvm.ClassFile.decode (pm_bytes 93) 23 = .ok (.ireturn, 1) := by decide +kernel
theorem i_93_24 : Jvm.ClassFile.decode (pm_bytes 93) 24 = .ok (.iconst 0, 1) := by decide +kernel
theorem i_93_25 : Jvm.ClassFile.decode (pm_bytes 93) 25 = .ok (.ireturn, 1) := by decide +kernel
theorem k_94_44 : (pm_own 94, 44, 11, 2, (some 0 : Option Nat)) ∈ pm_call := k7_44
theorem m_94 : pm_mL 94 = 4 := rfl
theorem r_94 : pm_ret 94 = 1 := rfl
theorem i_94_0 : Jvm.ClassFile.decode (pm_bytes 94) 0 = .ok (.aload_n 2, 1) := by decide +kernel
theorem i_94_1 : Jvm.ClassFile.decode (pm_bytes 94) 1 = .ok (.iconst 0, 1) := by decide +kernel
theorem i_94_2 : Jvm.ClassFile.decode (pm_bytes 94) 2 = .ok (.aload_n 0, 1) := by decide +kernel
theorem i_94_3 : Jvm.ClassFile.decode (pm_bytes 94) 3 = .ok (.iload_n 1, 1) := by decide +kernel
theorem i_94_4 : Jvm.ClassFile.decode (pm_bytes 94) 4 = .ok (.invokevirtual 44, 3) := by decide +kernel
theorem i_94_7 : Jvm.ClassFile.decode (pm_bytes 94) 7 = .ok (.ifCond .eq (7), 3) := by decide +kernel
theorem i_94_10 : Jvm.ClassFile.decode (pm_bytes 94) 10 = .ok (.lconst 1, 1) := by decide +kernel
theorem i_94_11 : Jvm.ClassFile.decode (pm_bytes 94) 11 = .ok (.goto (4), 3) := by decide +kernel
theorem i_94_14 : Jvm.ClassFile.decode (pm_bytes 94) 14 = .ok (.lconst 0, 1) := by decide +kernel
theorem i_94_15 : Jvm.ClassFile.decode (pm_bytes 94) 15 = .ok (.lastore, 1) := by decide +kernel
theorem i_94_16 : Jvm.ClassFile.decode (pm_bytes 94) 16 = .ok (.goto (6), 3) := by decide +kernel
theorem i_94_20 : Jvm.ClassFile.decode (pm_bytes 94) 20 = .ok (.iconst 1, 1) := by decide +kernel
theorem i_94_21 : Jvm.ClassFile.decode (pm_bytes 94) 21 = .ok (.ireturn, 1) := by decide +kernel
theorem i_94_22 : Jvm.ClassFile.decode (pm_bytes 94) 22 = .ok (.iconst 0, 1) := by decide +kernel
theorem i_94_23 : Jvm.ClassFile.decode (pm_bytes 94) 23 = .ok (.ireturn, 1) := by decide +kernel
end
section
/-! fetch rows of the methods 95 to 95, laid by wip/whole/gen/fetch.py -/
theorem k_95_52 : (pm_own 95, 52, 86, 2, (none : Option Nat)) ∈ pm_call := k7_52
theorem k_95_57 : (pm_own 95, 57, 67, 1, (some 6 : Option Nat)) ∈ pm_call := k7_57
theorem k_95_58 : (pm_own 95, 58, 63, 1, (some 6 : Option Nat)) ∈ pm_call := k7_58
theorem k_95_61 : (pm_own 95, 61, 87, 3, (none : Option Nat)) ∈ pm_call := k7_61
theorem k_95_64 : (pm_own 95, 64, 68, 2, (some 6 : Option Nat)) ∈ pm_call := k7_64
theorem k_95_65 : (pm_own 95, 65, 88, 5, (none : Option Nat)) ∈ pm_call := k7_65
theorem k_95_68 : (pm_own 95, 68, 69, 4, (some 6 : Option Nat)) ∈ pm_call := k7_68
theorem k_95_69 : (pm_own 95, 69, 89, 5, (none : Option Nat)) ∈ pm_call := k7_69
theorem k_95_71 : (pm_own 95, 71, 70, 4, (some 6 : Option Nat)) ∈ pm_call := k7_71
theorem k_95_72 : (pm_own 95, 72, 90, 3, (none : Option Nat)) ∈ pm_call := k7_72
theorem k_95_74 : (pm_own 95, 74, 71, 2, (some 6 : Option Nat)) ∈ pm_call := k7_74
theorem k_95_75 : (pm_own 95, 75, 5, 1, (some 0 : Option Nat)) ∈ pm_call := k7_75
theorem k_95_78 : (pm_own 95, 78, 72, 1, (some 6 : Option Nat)) ∈ pm_call := k7_78
theorem k_95_79 : (pm_own 95, 79, 6, 1, (some 0 : Option Nat)) ∈ pm_call := k7_79
theorem k_95_83 : (pm_own 95, 83, 78, 1, (some 6 : Option Nat)) ∈ pm_call := k7_83
theorem k_95_84 : (pm_own 95, 84, 7, 1, (some 0 : Option Nat)) ∈ pm_call := k7_84
theorem k_95_87 : (pm_own 95, 87, 79, 1, (some 6 : Option Nat)) ∈ pm_call := k7_87
theorem k_95_88 : (pm_own 95, 88, 91, 3, (none : Option Nat)) ∈ pm_call := k7_88
theorem k_95_90 : (pm_own 95, 90, 80, 2, (some 6 : Option Nat)) ∈ pm_call := k7_90
theorem k_95_91 : (pm_own 95, 91, 92, 4, (none : Option Nat)) ∈ pm_call := k7_91
theorem k_95_94 : (pm_own 95, 94, 81, 3, (some 6 : Option Nat)) ∈ pm_call := k7_94
theorem k_95_95 : (pm_own 95, 95, 93, 4, (none : Option Nat)) ∈ pm_call := k7_95
theorem k_95_98 : (pm_own 95, 98, 82, 3, (some 6 : Option Nat)) ∈ pm_call := k7_98
theorem k_95_99 : (pm_own 95, 99, 94, 3, (none : Option Nat)) ∈ pm_call := k7_99
theorem k_95_101 : (pm_own 95, 101, 83, 2, (some 6 : Option Nat)) ∈ pm_call := k7_101
theorem k_95_102 : (pm_own 95, 102, 12, 1, (some 0 : Option Nat)) ∈ pm_call := k7_102
theorem k_95_105 : (pm_own 95, 105, 84, 1, (some 6 : Option Nat)) ∈ pm_call := k7_105
theorem k_95_106 : (pm_own 95, 106, 13, 2, (some 0 : Option Nat)) ∈ pm_call := k7_106
theorem k_95_109 : (pm_own 95, 109, 85, 2, (some 6 : Option Nat)) ∈ pm_call := k7_109
theorem m_95 : pm_mL 95 = 7 := rfl
theorem r_95 : pm_ret 95 = 2 := rfl
theorem i_95_20 : Jvm.ClassFile.decode (pm_bytes 95) 20 = .ok (.iconst 0, 1) := by decide +kernel
theorem i_95_21 : Jvm.ClassFile.decode (pm_bytes 95) 21 = .ok (.istore 4, 2) := by decide +kernel
theorem i_95_23 : Jvm.ClassFile.decode (pm_bytes 95) 23 = .ok (.iload 4, 2) := by decide +kernel
theorem i_95_25 : Jvm.ClassFile.decode (pm_bytes 95) 25 = .ok (.aload_n 0, 1) := by decide +kernel
theorem i_95_26 : Jvm.ClassFile.decode (pm_bytes 95) 26 = .ok (.arraylength, 1) := by decide +kernel
theorem i_95_27 : Jvm.ClassFile.decode (pm_bytes 95) 27 = .ok (.iconst 4, 1) := by decide +kernel
theorem i_95_28 : Jvm.ClassFile.decode (pm_bytes 95) 28 = .ok (.isub, 1) := by decide +kernel
theorem i_95_29 : Jvm.ClassFile.decode (pm_bytes 95) 29 = .ok (.if_icmp .gt (763), 3) := by decide +kernel
theorem i_95_32 : Jvm.ClassFile.decode (pm_bytes 95) 32 = .ok (.aload_n 0, 1) := by decide +kernel
theorem i_95_33 : Jvm.ClassFile.decode (pm_bytes 95) 33 = .ok (.iload 4, 2) := by decide +kernel
theorem i_95_35 : Jvm.ClassFile.decode (pm_bytes 95) 35 = .ok (.iaload, 1) := by decide +kernel
theorem i_95_36 : Jvm.ClassFile.decode (pm_bytes 95) 36 = .ok (.bipush (15), 2) := by decide +kernel
theorem i_95_38 : Jvm.ClassFile.decode (pm_bytes 95) 38 = .ok (.iand, 1) := by decide +kernel
theorem i_95_39 : Jvm.ClassFile.decode (pm_bytes 95) 39 = .ok (.tableswitch (747) (0) (13) #[69, 113, 169, 249, 329, 385, 398, 411, 424, 480, 555, 646, 709, 722], 69) := by decide +kernel
theorem i_95_108 : Jvm.ClassFile.decode (pm_bytes 95) 108 = .ok (.aload_n 1, 1) := by decide +kernel
theorem i_95_109 : Jvm.ClassFile.decode (pm_bytes 95) 109 = .ok (.aload_n 3, 1) := by decide +kernel
theorem i_95_110 : Jvm.ClassFile.decode (pm_bytes 95) 110 = .ok (.invokestatic 52, 3) := by decide +kernel
theorem i_95_113 : Jvm.ClassFile.decode (pm_bytes 95) 113 = .ok (.istore 5, 2) := by decide +kernel
theorem i_95_115 : Jvm.ClassFile.decode (pm_bytes 95) 115 = .ok (.aload_n 2, 1) := by decide +kernel
theorem i_95_116 : Jvm.ClassFile.decode (pm_bytes 95) 116 = .ok (.invokevirtual 57, 3) := by decide +kernel
theorem i_95_119 : Jvm.ClassFile.decode (pm_bytes 95) 119 = .ok (.istore 6, 2) := by decide +kernel
theorem i_95_121 : Jvm.ClassFile.decode (pm_bytes 95) 121 = .ok (.aload_n 2, 1) := by decide +kernel
theorem i_95_122 : Jvm.ClassFile.decode (pm_bytes 95) 122 = .ok (.invokevirtual 58, 3) := by decide +kernel
theorem i_95_125 : Jvm.ClassFile.decode (pm_bytes 95) 125 = .ok (.iload 5, 2) := by decide +kernel
theorem i_95_127 : Jvm.ClassFile.decode (pm_bytes 95) 127 = .ok (.if_icmp .eq (5), 3) := by decide +kernel
theorem i_95_130 : Jvm.ClassFile.decode (pm_bytes 95) 130 = .ok (.iconst 0, 1) := by decide +kernel
theorem i_95_131 : Jvm.ClassFile.decode (pm_bytes 95) 131 = .ok (.ireturn, 1) := by decide +kernel
theorem i_95_132 : Jvm.ClassFile.decode (pm_bytes 95) 132 = .ok (.iload 5, 2) := by decide +kernel
theorem i_95_134 : Jvm.ClassFile.decode (pm_bytes 95) 134 = .ok (.ifCond .ne (15), 3) := by decide +kernel
theorem i_95_137 : Jvm.ClassFile.decode (pm_bytes 95) 137 = .ok (.aload_n 3, 1) := by decide +kernel
theorem i_95_138 : Jvm.ClassFile.decode (pm_bytes 95) 138 = .ok (.iconst 0, 1) := by decide +kernel
theorem i_95_139 : Jvm.ClassFile.decode (pm_bytes 95) 139 = .ok (.laload, 1) := by decide +kernel
theorem i_95_140 : Jvm.ClassFile.decode (pm_bytes 95) 140 = .ok (.iload 6, 2) := by decide +kernel
theorem i_95_142 : Jvm.ClassFile.decode (pm_bytes 95) 142 = .ok (.i2l, 1) := by decide +kernel
theorem i_95_143 : Jvm.ClassFile.decode (pm_bytes 95) 143 = .ok (.lcmp, 1) := by decide +kernel
theorem i_95_144 : Jvm.ClassFile.decode (pm_bytes 95) 144 = .ok (.ifCond .eq (5), 3) := by decide +kernel
theorem i_95_147 : Jvm.ClassFile.decode (pm_bytes 95) 147 = .ok (.iconst 0, 1) := by decide +kernel
theorem i_95_148 : Jvm.ClassFile.decode (pm_bytes 95) 148 = .ok (.ireturn, 1) := by decide +kernel
theorem i_95_149 : Jvm.ClassFile.decode (pm_bytes 95) 149 = .ok (.goto (637), 3) := by decide +kernel
theorem i_95_152 : Jvm.ClassFile.decode (pm_bytes 95) 152 = .ok (.aload_n 1, 1) := by decide +kernel
theorem i_95_153 : Jvm.ClassFile.decode (pm_bytes 95) 153 = .ok (.aload_n 0, 1) := by decide +kernel
theorem i_95_154 : Jvm.ClassFile.decode (pm_bytes 95) 154 = .ok (.iload 4, 2) := by decide +kernel
theorem i_95_156 : Jvm.ClassFile.decode (pm_bytes 95) 156 = .ok (.iconst 1, 1) := by decide +kernel
theorem i_95_157 : Jvm.ClassFile.decode (pm_bytes 95) 157 = .ok (.iadd, 1) := by decide +kernel
theorem i_95_158 : Jvm.ClassFile.decode (pm_bytes 95) 158 = .ok (.iaload, 1) := by decide +kernel
theorem i_95_159 : Jvm.ClassFile.decode (pm_bytes 95) 159 = .ok (.aload_n 3, 1) := by decide +kernel
theorem i_95_160 : Jvm.ClassFile.decode (pm_bytes 95) 160 = .ok (.invokestatic 61, 3) := by decide +kernel
theorem i_95_163 : Jvm.ClassFile.decode (pm_bytes 95) 163 = .ok (.istore 5, 2) := by decide +kernel
theorem i_95_165 : Jvm.ClassFile.decode (pm_bytes 95) 165 = .ok (.aload_n 2, 1) := by decide +kernel
theorem i_95_166 : Jvm.ClassFile.decode (pm_bytes 95) 166 = .ok (.aload_n 0, 1) := by decide +kernel
theorem i_95_167 : Jvm.ClassFile.decode (pm_bytes 95) 167 = .ok (.iload 4, 2) := by decide +kernel
theorem i_95_169 : Jvm.ClassFile.decode (pm_bytes 95) 169 = .ok (.iconst 1, 1) := by decide +kernel
theorem i_95_170 : Jvm.ClassFile.decode (pm_bytes 95) 170 = .ok (.iadd, 1) := by decide +kernel
theorem i_95_171 : Jvm.ClassFile.decode (pm_bytes 95) 171 = .ok (.iaload, 1) := by decide +kernel
theorem i_95_172 : Jvm.ClassFile.decode (pm_bytes 95) 172 = .ok (.invokevirtual 64, 3) := by decide +kernel
theorem i_95_175 : Jvm.ClassFile.decode (pm_bytes 95) 175 = .ok (.istore 6, 2) := by decide +kernel
theorem i_95_177 : Jvm.ClassFile.decode (pm_bytes 95) 177 = .ok (.aload_n 2, 1) := by decide +kernel
theorem i_95_178 : Jvm.ClassFile.decode (pm_bytes 95) 178 = .ok (.invokevirtual 58, 3) := by decide +kernel
theorem i_95_181 : Jvm.ClassFile.decode (pm_bytes 95) 181 = .ok (.iload 5, 2) := by decide +kernel
theorem i_95_183 : Jvm.ClassFile.decode (pm_bytes 95) 183 = .ok (.if_icmp .eq (5), 3) := by decide +kernel
theorem i_95_186 : Jvm.ClassFile.decode (pm_bytes 95) 186 = .ok (.iconst 0, 1) := by decide +kernel
theorem i_95_187 : Jvm.ClassFile.decode (pm_bytes 95) 187 = .ok (.ireturn, 1) := by decide +kernel
theorem i_95_188 : Jvm.ClassFile.decode (pm_bytes 95) 188 = .ok (.iload 5, 2) := by decide +kernel
theorem i_95_190 : Jvm.ClassFile.decode (pm_bytes 95) 190 = .ok (.ifCond .ne (15), 3) := by decide +kernel
theorem i_95_193 : Jvm.ClassFile.decode (pm_bytes 95) 193 = .ok (.aload_n 3, 1) := by decide +kernel
theorem i_95_194 : Jvm.ClassFile.decode (pm_bytes 95) 194 = .ok (.iconst 0, 1) := by decide +kernel
theorem i_95_195 : Jvm.ClassFile.decode (pm_bytes 95) 195 = .ok (.laload, 1) := by decide +kernel
theorem i_95_196 : Jvm.ClassFile.decode (pm_bytes 95) 196 = .ok (.iload 6, 2) := by decide +kernel
theorem i_95_198 : Jvm.ClassFile.decode (pm_bytes 95) 198 = .ok (.i2l, 1) := by decide +kernel
theorem i_95_199 : Jvm.ClassFile.decode (pm_bytes 95) 199 = .ok (.lcmp, 1) := by decide +kernel
theorem i_95_200 : Jvm.ClassFile.decode (pm_bytes 95) 200 = .ok (.ifCond .eq (5), 3) := by decide +kernel
theorem i_95_203 : Jvm.ClassFile.decode (pm_bytes 95) 203 = .ok (.iconst 0, 1) := by decide +kernel
theorem i_95_204 : Jvm.ClassFile.decode (pm_bytes 95) 204 = .ok (.ireturn, 1) := by decide +kernel
theorem i_95_205 : Jvm.ClassFile.decode (pm_bytes 95) 205 = .ok (.goto (581), 3) := by decide +kernel
theorem i_95_208 : Jvm.ClassFile.decode (pm_bytes 95) 208 = .ok (.aload_n 1, 1) := by decide +kernel
theorem i_95_209 : Jvm.ClassFile.decode (pm_bytes 95) 209 = .ok (.aload_n 0, 1) := by decide +kernel
theorem i_95_210 : Jvm.ClassFile.decode (pm_bytes 95) 210 = .ok (.iload 4, 2) := by decide +kernel
theorem i_95_212 : Jvm.ClassFile.decode (pm_bytes 95) 212 = .ok (.iconst 1, 1) := by decide +kernel
theorem i_95_213 : Jvm.ClassFile.decode (pm_bytes 95) 213 = .ok (.iadd, 1) := by decide +kernel
theorem i_95_214 : Jvm.ClassFile.decode (pm_bytes 95) 214 = .ok (.iaload, 1) := by decide +kernel
theorem i_95_215 : Jvm.ClassFile.decode (pm_bytes 95) 215 = .ok (.aload_n 0, 1) := by decide +kernel
theorem i_95_216 : Jvm.ClassFile.decode (pm_bytes 95) 216 = .ok (.iload 4, 2) := by decide +kernel
theorem i_95_218 : Jvm.ClassFile.decode (pm_bytes 95) 218 = .ok (.iconst 2, 1) := by decide +kernel
theorem i_95_219 : Jvm.ClassFile.decode (pm_bytes 95) 219 = .ok (.iadd, 1) := by decide +kernel
theorem i_95_220 : Jvm.ClassFile.decode (pm_bytes 95) 220 = .ok (.iaload, 1) := by decide +kernel
theorem i_95_221 : Jvm.ClassFile.decode (pm_bytes 95) 221 = .ok (.aload_n 0, 1) := by decide +kernel
theorem i_95_222 : Jvm.ClassFile.decode (pm_bytes 95) 222 = .ok (.iload 4, 2) := by decide +kernel
theorem i_95_224 : Jvm.ClassFile.decode (pm_bytes 95) 224 = .ok (.iconst 3, 1) := by decide +kernel
theorem i_95_225 : Jvm.ClassFile.decode (pm_bytes 95) 225 = .ok (.iadd, 1) := by decide +kernel
theorem i_95_226 : Jvm.ClassFile.decode (pm_bytes 95) 226 = .ok (.iaload, 1) := by decide +kernel
theorem i_95_227 : Jvm.ClassFile.decode (pm_bytes 95) 227 = .ok (.aload_n 3, 1) := by decide +kernel
theorem i_95_228 : Jvm.ClassFile.decode (pm_bytes 95) 228 = .ok (.invokestatic 65, 3) := by decide +kernel
theorem i_95_231 : Jvm.ClassFile.decode (pm_bytes 95) 231 = .ok (.istore 5, 2) := by decide +kernel
theorem i_95_233 : Jvm.ClassFile.decode (pm_bytes 95) 233 = .ok (.aload_n 2, 1) := by decide +kernel
theorem i_95_234 : Jvm.ClassFile.decode (pm_bytes 95) 234 = .ok (.aload_n 0, 1) := by decide +kernel
theorem i_95_235 : Jvm.ClassFile.decode (pm_bytes 95) 235 = .ok (.iload 4, 2) := by decide +kernel
theorem i_95_237 : Jvm.ClassFile.decode (pm_bytes 95) 237 = .ok (.iconst 1, 1) := by decide +kernel
theorem i_95_238 : Jvm.ClassFile.decode (pm_bytes 95) 238 = .ok (.iadd, 1) := by decide +kernel
theorem i_95_239 : Jvm.ClassFile.decode (pm_bytes 95) 239 = .ok (.iaload, 1) := by decide +kernel
theorem i_95_240 : Jvm.ClassFile.decode (pm_bytes 95) 240 = .ok (.aload_n 0, 1) := by decide +kernel
theorem i_95_241 : Jvm.ClassFile.decode (pm_bytes 95) 241 = .ok (.iload 4, 2) := by decide +kernel
theorem i_95_243 : Jvm.ClassFile.decode (pm_bytes 95) 243 = .ok (.iconst 2, 1) := by decide +kernel
theorem i_95_244 : Jvm.ClassFile.decode (pm_bytes 95) 244 = .ok (.iadd, 1) := by decide +kernel
theorem i_95_245 : Jvm.ClassFile.decode (pm_bytes 95) 245 = .ok (.iaload, 1) := by decide +kernel
theorem i_95_246 : Jvm.ClassFile.decode (pm_bytes 95) 246 = .ok (.aload_n 0, 1) := by decide +kernel
theorem i_95_247 : Jvm.ClassFile.decode (pm_bytes 95) 247 = .ok (.iload 4, 2) := by decide +kernel
theorem i_95_249 : Jvm.ClassFile.decode (pm_bytes 95) 249 = .ok (.iconst 3, 1) := by decide +kernel
theorem i_95_250 : Jvm.ClassFile.decode (pm_bytes 95) 250 = .ok (.iadd, 1) := by decide +kernel
theorem i_95_251 : Jvm.ClassFile.decode (pm_bytes 95) 251 = .ok (.iaload, 1) := by decide +kernel
theorem i_95_252 : Jvm.ClassFile.decode (pm_bytes 95) 252 = .ok (.invokevirtual 68, 3) := by decide +kernel
theorem i_95_255 : Jvm.ClassFile.decode (pm_bytes 95) 255 = .ok (.istore 6, 2) := by decide +kernel
theorem i_95_257 : Jvm.ClassFile.decode (pm_bytes 95) 257 = .ok (.aload_n 2, 1) := by decide +kernel
theorem i_95_258 : Jvm.ClassFile.decode (pm_bytes 95) 258 = .ok (.invokevirtual 58, 3) := by decide +kernel
theorem i_95_261 : Jvm.ClassFile.decode (pm_bytes 95) 261 = .ok (.iload 5, 2) := by decide +kernel
theorem i_95_263 : Jvm.ClassFile.decode (pm_bytes 95) 263 = .ok (.if_icmp .eq (5), 3) := by decide +kernel
theorem i_95_266 : Jvm.ClassFile.decode (pm_bytes 95) 266 = .ok (.iconst 0, 1) := by decide +kernel
theorem i_95_267 : Jvm.ClassFile.decode (pm_bytes 95) 267 = .ok (.ireturn, 1) := by decide +kernel
theorem i_95_268 : Jvm.ClassFile.decode (pm_bytes 95) 268 = .ok (.iload 5, 2) := by decide +kernel
theorem i_95_270 : Jvm.ClassFile.decode (pm_bytes 95) 270 = .ok (.ifCond .ne (15), 3) := by decide +kernel
theorem i_95_273 : Jvm.ClassFile.decode (pm_bytes 95) 273 = .ok (.aload_n 3, 1) := by decide +kernel
theorem i_95_274 : Jvm.ClassFile.decode (pm_bytes 95) 274 = .ok (.iconst 0, 1) := by decide +kernel
theorem i_95_275 : Jvm.ClassFile.decode (pm_bytes 95) 275 = .ok (.laload, 1) := by decide +kernel
theorem i_95_276 : Jvm.ClassFile.decode (pm_bytes 95) 276 = .ok (.iload 6, 2) := by decide +kernel
theorem i_95_278 : Jvm.ClassFile.decode (pm_bytes 95) 278 = .ok (.i2l, 1) := by decide +kernel
theorem i_95_279 : Jvm.ClassFile.decode (pm_bytes 95) 279 = .ok (.lcmp, 1) := by decide +kernel
theorem i_95_280 : Jvm.ClassFile.decode (pm_bytes 95) 280 = .ok (.ifCond .eq (5), 3) := by decide +kernel
theorem i_95_283 : Jvm.ClassFile.decode (pm_bytes 95) 283 = .ok (.iconst 0, 1) := by decide +kernel
theorem i_95_284 : Jvm.ClassFile.decode (pm_bytes 95) 284 = .ok (.ireturn, 1) := by decide +kernel
theorem i_95_285 : Jvm.ClassFile.decode (pm_bytes 95) 285 = .ok (.goto (501), 3) := by decide +kernel
theorem i_95_288 : Jvm.ClassFile.decode (pm_bytes 95) 288 = .ok (.aload_n 1, 1) := by decide +kernel
theorem i_95_289 : Jvm.ClassFile.decode (pm_bytes 95) 289 = .ok (.aload_n 0, 1) := by decide +kernel
theorem i_95_290 : Jvm.ClassFile.decode (pm_bytes 95) 290 = .ok (.iload 4, 2) := by decide +kernel
theorem i_95_292 : Jvm.ClassFile.decode (pm_bytes 95) 292 = .ok (.iconst 1, 1) := by decide +kernel
theorem i_95_293 : Jvm.ClassFile.decode (pm_bytes 95) 293 = .ok (.iadd, 1) := by decide +kernel
theorem i_95_294 : Jvm.ClassFile.decode (pm_bytes 95) 294 = .ok (.iaload, 1) := by decide +kernel
theorem i_95_295 : Jvm.ClassFile.decode (pm_bytes 95) 295 = .ok (.aload_n 0, 1) := by decide +kernel
theorem i_95_296 : Jvm.ClassFile.decode (pm_bytes 95) 296 = .ok (.iload 4, 2) := by decide +kernel
theorem i_95_298 : Jvm.ClassFile.decode (pm_bytes 95) 298 = .ok (.iconst 2, 1) := by decide +kernel
theorem i_95_299 : Jvm.ClassFile.decode (pm_bytes 95) 299 = .ok (.iadd, 1) := by decide +kernel
theorem i_95_300 : Jvm.ClassFile.decode (pm_bytes 95) 300 = .ok (.iaload, 1) := by decide +kernel
theorem i_95_301 : Jvm.ClassFile.decode (pm_bytes 95) 301 = .ok (.aload_n 0, 1) := by decide +kernel
theorem i_95_302 : Jvm.ClassFile.decode (pm_bytes 95) 302 = .ok (.iload 4, 2) := by decide +kernel
theorem i_95_304 : Jvm.ClassFile.decode (pm_bytes 95) 304 = .ok (.iconst 3, 1) := by decide +kernel
theorem i_95_305 : Jvm.ClassFile.decode (pm_bytes 95) 305 = .ok (.iadd, 1) := by decide +kernel
theorem i_95_306 : Jvm.ClassFile.decode (pm_bytes 95) 306 = .ok (.iaload, 1) := by decide +kernel
theorem i_95_307 : Jvm.ClassFile.decode (pm_bytes 95) 307 = .ok (.aload_n 3, 1) := by decide +kernel
theorem i_95_308 : Jvm.ClassFile.decode (pm_bytes 95) 308 = .ok (.invokestatic 69, 3) := by decide +kernel
theorem i_95_311 : Jvm.ClassFile.decode (pm_bytes 95) 311 = .ok (.istore 5, 2) := by decide +kernel
theorem i_95_313 : Jvm.ClassFile.decode (pm_bytes 95) 313 = .ok (.aload_n 2, 1) := by decide +kernel
theorem i_95_314 : Jvm.ClassFile.decode (pm_bytes 95) 314 = .ok (.aload_n 0, 1) := by decide +kernel
theorem i_95_315 : Jvm.ClassFile.decode (pm_bytes 95) 315 = .ok (.iload 4, 2) := by decide +kernel
theorem i_95_317 : Jvm.ClassFile.decode (pm_bytes 95) 317 = .ok (.iconst 1, 1) := by decide +kernel
theorem i_95_318 : Jvm.ClassFile.decode (pm_bytes 95) 318 = .ok (.iadd, 1) := by decide +kernel
theorem i_95_319 : Jvm.ClassFile.decode (pm_bytes 95) 319 = .ok (.iaload, 1) := by decide +kernel
theorem i_95_320 : Jvm.ClassFile.decode (pm_bytes 95) 320 = .ok (.aload_n 0, 1) := by decide +kernel
theorem i_95_321 : Jvm.ClassFile.decode (pm_bytes 95) 321 = .ok (.iload 4, 2) := by decide +kernel
theorem i_95_323 : Jvm.ClassFile.decode (pm_bytes 95) 323 = .ok (.iconst 2, 1) := by decide +kernel
theorem i_95_324 : Jvm.ClassFile.decode (pm_bytes 95) 324 = .ok (.iadd, 1) := by decide +kernel
theorem i_95_325 : Jvm.ClassFile.decode (pm_bytes 95) 325 = .ok (.iaload, 1) := by decide +kernel
theorem i_95_326 : Jvm.ClassFile.decode (pm_bytes 95) 326 = .ok (.aload_n 0, 1) := by decide +kernel
theorem i_95_327 : Jvm.ClassFile.decode (pm_bytes 95) 327 = .ok (.iload 4, 2) := by decide +kernel
theorem i_95_329 : Jvm.ClassFile.decode (pm_bytes 95) 329 = .ok (.iconst 3, 1) := by decide +kernel
theorem i_95_330 : Jvm.ClassFile.decode (pm_bytes 95) 330 = .ok (.iadd, 1) := by decide +kernel
theorem i_95_331 : Jvm.ClassFile.decode (pm_bytes 95) 331 = .ok (.iaload, 1) := by decide +kernel
theorem i_95_332 : Jvm.ClassFile.decode (pm_bytes 95) 332 = .ok (.invokevirtual 71, 3) := by decide +kernel
theorem i_95_335 : Jvm.ClassFile.decode (pm_bytes 95) 335 = .ok (.istore 6, 2) := by decide +kernel
theorem i_95_337 : Jvm.ClassFile.decode (pm_bytes 95) 337 = .ok (.aload_n 2, 1) := by decide +kernel
theorem i_95_338 : Jvm.ClassFile.decode (pm_bytes 95) 338 = .ok (.invokevirtual 58, 3) := by decide +kernel
theorem i_95_341 : Jvm.ClassFile.decode (pm_bytes 95) 341 = .ok (.iload 5, 2) := by decide +kernel
theorem i_95_343 : Jvm.ClassFile.decode (pm_bytes 95) 343 = .ok (.if_icmp .eq (5), 3) := by decide +kernel
theorem i_95_346 : Jvm.ClassFile.decode (pm_bytes 95) 346 = .ok (.iconst 0, 1) := by decide +kernel
theorem i_95_347 : Jvm.ClassFile.decode (pm_bytes 95) 347 = .ok (.ireturn, 1) := by decide +kernel
theorem i_95_348 : Jvm.ClassFile.decode (pm_bytes 95) 348 = .ok (.iload 5, 2) := by decide +kernel
theorem i_95_350 : Jvm.ClassFile.decode (pm_bytes 95) 350 = .ok (.ifCond .ne (15), 3) := by decide +kernel
theorem i_95_353 : Jvm.ClassFile.decode (pm_bytes 95) 353 = .ok (.aload_n 3, 1) := by decide +kernel
theorem i_95_354 : Jvm.ClassFile.decode (pm_bytes 95) 354 = .ok (.iconst 0, 1) := by decide +kernel
theorem i_95_355 : Jvm.ClassFile.decode (pm_bytes 95) 355 = .ok (.laload, 1) := by decide +kernel
theorem i_95_356 : Jvm.ClassFile.decode (pm_bytes 95) 356 = .ok (.iload 6, 2) := by decide +kernel
theorem i_95_358 : Jvm.ClassFile.decode (pm_bytes 95) 358 = .ok (.i2l, 1) := by decide +kernel
theorem i_95_359 : Jvm.ClassFile.decode (pm_bytes 95) 359 = .ok (.lcmp, 1) := by decide +kernel
theorem i_95_360 : Jvm.ClassFile.decode (pm_bytes 95) 360 = .ok (.ifCond .eq (5), 3) := by decide +kernel
theorem i_95_363 : Jvm.ClassFile.decode (pm_bytes 95) 363 = .ok (.iconst 0, 1) := by decide +kernel
theorem i_95_364 : Jvm.ClassFile.decode (pm_bytes 95) 364 = .ok (.ireturn, 1) := by decide +kernel
theorem i_95_365 : Jvm.ClassFile.decode (pm_bytes 95) 365 = .ok (.goto (421), 3) := by decide +kernel
theorem i_95_368 : Jvm.ClassFile.decode (pm_bytes 95) 368 = .ok (.aload_n 1, 1) := by decide +kernel
theorem i_95_369 : Jvm.ClassFile.decode (pm_bytes 95) 369 = .ok (.aload_n 0, 1) := by decide +kernel
theorem i_95_370 : Jvm.ClassFile.decode (pm_bytes 95) 370 = .ok (.iload 4, 2) := by decide +kernel
theorem i_95_372 : Jvm.ClassFile.decode (pm_bytes 95) 372 = .ok (.iconst 1, 1) := by decide +kernel
theorem i_95_373 : Jvm.ClassFile.decode (pm_bytes 95) 373 = .ok (.iadd, 1) := by decide +kernel
theorem i_95_374 : Jvm.ClassFile.decode (pm_bytes 95) 374 = .ok (.iaload, 1) := by decide +kernel
theorem i_95_375 : Jvm.ClassFile.decode (pm_bytes 95) 375 = .ok (.aload_n 3, 1) := by decide +kernel
theorem i_95_376 : Jvm.ClassFile.decode (pm_bytes 95) 376 = .ok (.invokestatic 72, 3) := by decide +kernel
theorem i_95_379 : Jvm.ClassFile.decode (pm_bytes 95) 379 = .ok (.istore 5, 2) := by decide +kernel
theorem i_95_381 : Jvm.ClassFile.decode (pm_bytes 95) 381 = .ok (.aload_n 2, 1) := by decide +kernel
theorem i_95_382 : Jvm.ClassFile.decode (pm_bytes 95) 382 = .ok (.aload_n 0, 1) := by decide +kernel
theorem i_95_383 : Jvm.ClassFile.decode (pm_bytes 95) 383 = .ok (.iload 4, 2) := by decide +kernel
theorem i_95_385 : Jvm.ClassFile.decode (pm_bytes 95) 385 = .ok (.iconst 1, 1) := by decide +kernel
theorem i_95_386 : Jvm.ClassFile.decode (pm_bytes 95) 386 = .ok (.iadd, 1) := by decide +kernel
theorem i_95_387 : Jvm.ClassFile.decode (pm_bytes 95) 387 = .ok (.iaload, 1) := by decide +kernel
theorem i_95_388 : Jvm.ClassFile.decode (pm_bytes 95) 388 = .ok (.invokevirtual 74, 3) := by decide +kernel
theorem i_95_391 : Jvm.ClassFile.decode (pm_bytes 95) 391 = .ok (.istore 6, 2) := by decide +kernel
theorem i_95_393 : Jvm.ClassFile.decode (pm_bytes 95) 393 = .ok (.aload_n 2, 1) := by decide +kernel
theorem i_95_394 : Jvm.ClassFile.decode (pm_bytes 95) 394 = .ok (.invokevirtual 58, 3) := by decide +kernel
theorem i_95_397 : Jvm.ClassFile.decode (pm_bytes 95) 397 = .ok (.iload 5, 2) := by decide +kernel
theorem i_95_399 : Jvm.ClassFile.decode (pm_bytes 95) 399 = .ok (.if_icmp .eq (5), 3) := by decide +kernel
theorem i_95_402 : Jvm.ClassFile.decode (pm_bytes 95) 402 = .ok (.iconst 0, 1) := by decide +kernel
theorem i_95_403 : Jvm.ClassFile.decode (pm_bytes 95) 403 = .ok (.ireturn, 1) := by decide +kernel
theorem i_95_404 : Jvm.ClassFile.decode (pm_bytes 95) 404 = .ok (.iload 5, 2) := by decide +kernel
theorem i_95_406 : Jvm.ClassFile.decode (pm_bytes 95) 406 = .ok (.ifCond .ne (15), 3) := by decide +kernel
theorem i_95_409 : Jvm.ClassFile.decode (pm_bytes 95) 409 = .ok (.aload_n 3, 1) := by decide +kernel
theorem i_95_410 : Jvm.ClassFile.decode (pm_bytes 95) 410 = .ok (.iconst 0, 1) := by decide +kernel
theorem i_95_411 : Jvm.ClassFile.decode (pm_bytes 95) 411 = .ok (.laload, 1) := by decide +kernel
theorem i_95_412 : Jvm.ClassFile.decode (pm_bytes 95) 412 = .ok (.iload 6, 2) := by decide +kernel
theorem i_95_414 : Jvm.ClassFile.decode (pm_bytes 95) 414 = .ok (.i2l, 1) := by decide +kernel
theorem i_95_415 : Jvm.ClassFile.decode (pm_bytes 95) 415 = .ok (.lcmp, 1) := by decide +kernel
theorem i_95_416 : Jvm.ClassFile.decode (pm_bytes 95) 416 = .ok (.ifCond .eq (5), 3) := by decide +kernel
theorem i_95_419 : Jvm.ClassFile.decode (pm_bytes 95) 419 = .ok (.iconst 0, 1) := by decide +kernel
theorem i_95_420 : Jvm.ClassFile.decode (pm_bytes 95) 420 = .ok (.ireturn, 1) := by decide +kernel
theorem i_95_421 : Jvm.ClassFile.decode (pm_bytes 95) 421 = .ok (.goto (365), 3) := by decide +kernel
theorem i_95_424 : Jvm.ClassFile.decode (pm_bytes 95) 424 = .ok (.aload_n 1, 1) := by decide +kernel
theorem i_95_425 : Jvm.ClassFile.decode (pm_bytes 95) 425 = .ok (.invokevirtual 75, 3) := by decide +kernel
theorem i_95_428 : Jvm.ClassFile.decode (pm_bytes 95) 428 = .ok (.aload_n 2, 1) := by decide +kernel
theorem i_95_429 : Jvm.ClassFile.decode (pm_bytes 95) 429 = .ok (.invokevirtual 78, 3) := by decide +kernel
theorem i_95_432 : Jvm.ClassFile.decode (pm_bytes 95) 432 = .ok (.if_icmp .eq (354), 3) := by decide +kernel
theorem i_95_435 : Jvm.ClassFile.decode (pm_bytes 95) 435 = .ok (.iconst 0, 1) := by decide +kernel
theorem i_95_436 : Jvm.ClassFile.decode (pm_bytes 95) 436 = .ok (.ireturn, 1) := by decide +kernel
theorem i_95_437 : Jvm.ClassFile.decode (pm_bytes 95) 437 = .ok (.aload_n 1, 1) := by decide +kernel
theorem i_95_438 : Jvm.ClassFile.decode (pm_bytes 95) 438 = .ok (.invokevirtual 79, 3) := by decide +kernel
theorem i_95_441 : Jvm.ClassFile.decode (pm_bytes 95) 441 = .ok (.aload_n 2, 1) := by decide +kernel
theorem i_95_442 : Jvm.ClassFile.decode (pm_bytes 95) 442 = .ok (.invokevirtual 83, 3) := by decide +kernel
theorem i_95_445 : Jvm.ClassFile.decode (pm_bytes 95) 445 = .ok (.if_icmp .eq (341), 3) := by decide +kernel
theorem i_95_448 : Jvm.ClassFile.decode (pm_bytes 95) 448 = .ok (.iconst 0, 1) := by decide +kernel
theorem i_95_449 : Jvm.ClassFile.decode (pm_bytes 95) 449 = .ok (.ireturn, 1) := by decide +kernel
theorem i_95_450 : Jvm.ClassFile.decode (pm_bytes 95) 450 = .ok (.aload_n 1, 1) := by decide +kernel
theorem i_95_451 : Jvm.ClassFile.decode (pm_bytes 95) 451 = .ok (.invokevirtual 84, 3) := by decide +kernel
theorem i_95_454 : Jvm.ClassFile.decode (pm_bytes 95) 454 = .ok (.aload_n 2, 1) := by decide +kernel
theorem i_95_455 : Jvm.ClassFile.decode (pm_bytes 95) 455 = .ok (.invokevirtual 87, 3) := by decide +kernel
theorem i_95_458 : Jvm.ClassFile.decode (pm_bytes 95) 458 = .ok (.if_icmp .eq (328), 3) := by decide +kernel
theorem i_95_461 : Jvm.ClassFile.decode (pm_bytes 95) 461 = .ok (.iconst 0, 1) := by decide +kernel
theorem i_95_462 : Jvm.ClassFile.decode (pm_bytes 95) 462 = .ok (.ireturn, 1) := by decide +kernel
theorem i_95_463 : Jvm.ClassFile.decode (pm_bytes 95) 463 = .ok (.aload_n 1, 1) := by decide +kernel
theorem i_95_464 : Jvm.ClassFile.decode (pm_bytes 95) 464 = .ok (.aload_n 0, 1) := by decide +kernel
theorem i_95_465 : Jvm.ClassFile.decode (pm_bytes 95) 465 = .ok (.iload 4, 2) := by decide +kernel
theorem i_95_467 : Jvm.ClassFile.decode (pm_bytes 95) 467 = .ok (.iconst 1, 1) := by decide +kernel
theorem i_95_468 : Jvm.ClassFile.decode (pm_bytes 95) 468 = .ok (.iadd, 1) := by decide +kernel
theorem i_95_469 : Jvm.ClassFile.decode (pm_bytes 95) 469 = .ok (.iaload, 1) := by decide +kernel
theorem i_95_470 : Jvm.ClassFile.decode (pm_bytes 95) 470 = .ok (.aload_n 3, 1) := by decide +kernel
theorem i_95_471 : Jvm.ClassFile.decode (pm_bytes 95) 471 = .ok (.invokestatic 88, 3) := by decide +kernel
theorem i_95_474 : Jvm.ClassFile.decode (pm_bytes 95) 474 = .ok (.istore 5, 2) := by decide +kernel
theorem i_95_476 : Jvm.ClassFile.decode (pm_bytes 95) 476 = .ok (.aload_n 2, 1) := by decide +kernel
theorem i_95_477 : Jvm.ClassFile.decode (pm_bytes 95) 477 = .ok (.aload_n 0, 1) := by decide +kernel
theorem i_95_478 : Jvm.ClassFile.decode (pm_bytes 95) 478 = .ok (.iload 4, 2) := by decide +kernel
theorem i_95_480 : Jvm.ClassFile.decode (pm_bytes 95) 480 = .ok (.iconst 1, 1) := by decide +kernel
theorem i_95_481 : Jvm.ClassFile.decode (pm_bytes 95) 481 = .ok (.iadd, 1) := by decide +kernel
theorem i_95_482 : Jvm.ClassFile.decode (pm_bytes 95) 482 = .ok (.iaload, 1) := by decide +kernel
theorem i_95_483 : Jvm.ClassFile.decode (pm_bytes 95) 483 = .ok (.invokevirtual 90, 3) := by decide +kernel
theorem i_95_486 : Jvm.ClassFile.decode (pm_bytes 95) 486 = .ok (.istore 6, 2) := by decide +kernel
theorem i_95_488 : Jvm.ClassFile.decode (pm_bytes 95) 488 = .ok (.aload_n 2, 1) := by decide +kernel
theorem i_95_489 : Jvm.ClassFile.decode (pm_bytes 95) 489 = .ok (.invokevirtual 58, 3) := by decide +kernel
theorem i_95_492 : Jvm.ClassFile.decode (pm_bytes 95) 492 = .ok (.iload 5, 2) := by decide +kernel
theorem i_95_494 : Jvm.ClassFile.decode (pm_bytes 95) 494 = .ok (.if_icmp .eq (5), 3) := by decide +kernel
theorem i_95_497 : Jvm.ClassFile.decode (pm_bytes 95) 497 = .ok (.iconst 0, 1) := by decide +kernel
theorem i_95_498 : Jvm.ClassFile.decode (pm_bytes 95) 498 = .ok (.ireturn, 1) := by decide +kernel
theorem i_95_499 : Jvm.ClassFile.decode (pm_bytes 95) 499 = .ok (.iload 5, 2) := by decide +kernel
theorem i_95_501 : Jvm.ClassFile.decode (pm_bytes 95) 501 = .ok (.ifCond .ne (15), 3) := by decide +kernel
theorem i_95_504 : Jvm.ClassFile.decode (pm_bytes 95) 504 = .ok (.aload_n 3, 1) := by decide +kernel
theorem i_95_505 : Jvm.ClassFile.decode (pm_bytes 95) 505 = .ok (.iconst 0, 1) := by decide +kernel
theorem i_95_506 : Jvm.ClassFile.decode (pm_bytes 95) 506 = .ok (.laload, 1) := by decide +kernel
theorem i_95_507 : Jvm.ClassFile.decode (pm_bytes 95) 507 = .ok (.iload 6, 2) := by decide +kernel
theorem i_95_509 : Jvm.ClassFile.decode (pm_bytes 95) 509 = .ok (.i2l, 1) := by decide +kernel
theorem i_95_510 : Jvm.ClassFile.decode (pm_bytes 95) 510 = .ok (.lcmp, 1) := by decide +kernel
theorem i_95_511 : Jvm.ClassFile.decode (pm_bytes 95) 511 = .ok (.ifCond .eq (5), 3) := by decide +kernel
theorem i_95_514 : Jvm.ClassFile.decode (pm_bytes 95) 514 = .ok (.iconst 0, 1) := by decide +kernel
theorem i_95_515 : Jvm.ClassFile.decode (pm_bytes 95) 515 = .ok (.ireturn, 1) := by decide +kernel
theorem i_95_516 : Jvm.ClassFile.decode (pm_bytes 95) 516 = .ok (.goto (270), 3) := by decide +kernel
theorem i_95_519 : Jvm.ClassFile.decode (pm_bytes 95) 519 = .ok (.aload_n 1, 1) := by decide +kernel
theorem i_95_520 : Jvm.ClassFile.decode (pm_bytes 95) 520 = .ok (.aload_n 0, 1) := by decide +kernel
theorem i_95_521 : Jvm.ClassFile.decode (pm_bytes 95) 521 = .ok (.iload 4, 2) := by decide +kernel
theorem i_95_523 : Jvm.ClassFile.decode (pm_bytes 95) 523 = .ok (.iconst 1, 1) := by decide +kernel
theorem i_95_524 : Jvm.ClassFile.decode (pm_bytes 95) 524 = .ok (.iadd, 1) := by decide +kernel
theorem i_95_525 : Jvm.ClassFile.decode (pm_bytes 95) 525 = .ok (.iaload, 1) := by decide +kernel
theorem i_95_526 : Jvm.ClassFile.decode (pm_bytes 95) 526 = .ok (.aload_n 0, 1) := by decide +kernel
theorem i_95_527 : Jvm.ClassFile.decode (pm_bytes 95) 527 = .ok (.iload 4, 2) := by decide +kernel
theorem i_95_529 : Jvm.ClassFile.decode (pm_bytes 95) 529 = .ok (.iconst 2, 1) := by decide +kernel
theorem i_95_530 : Jvm.ClassFile.decode (pm_bytes 95) 530 = .ok (.iadd, 1) := by decide +kernel
theorem i_95_531 : Jvm.ClassFile.decode (pm_bytes 95) 531 = .ok (.iaload, 1) := by decide +kernel
theorem i_95_532 : Jvm.ClassFile.decode (pm_bytes 95) 532 = .ok (.aload_n 3, 1) := by decide +kernel
theorem i_95_533 : Jvm.ClassFile.decode (pm_bytes 95) 533 = .ok (.invokestatic 91, 3) := by decide +kernel
theorem i_95_536 : Jvm.ClassFile.decode (pm_bytes 95) 536 = .ok (.istore 5, 2) := by decide +kernel
theorem i_95_538 : Jvm.ClassFile.decode (pm_bytes 95) 538 = .ok (.aload_n 2, 1) := by decide +kernel
theorem i_95_539 : Jvm.ClassFile.decode (pm_bytes 95) 539 = .ok (.aload_n 0, 1) := by decide +kernel
theorem i_95_540 : Jvm.ClassFile.decode (pm_bytes 95) 540 = .ok (.iload 4, 2) := by decide +kernel
theorem i_95_542 : Jvm.ClassFile.decode (pm_bytes 95) 542 = .ok (.iconst 1, 1) := by decide +kernel
theorem i_95_543 : Jvm.ClassFile.decode (pm_bytes 95) 543 = .ok (.iadd, 1) := by decide +kernel
theorem i_95_544 : Jvm.ClassFile.decode (pm_bytes 95) 544 = .ok (.iaload, 1) := by decide +kernel
theorem i_95_545 : Jvm.ClassFile.decode (pm_bytes 95) 545 = .ok (.aload_n 0, 1) := by decide +kernel
theorem i_95_546 : Jvm.ClassFile.decode (pm_bytes 95) 546 = .ok (.iload 4, 2) := by decide +kernel
theorem i_95_548 : Jvm.ClassFile.decode (pm_bytes 95) 548 = .ok (.iconst 2, 1) := by decide +kernel
theorem i_95_549 : Jvm.ClassFile.decode (pm_bytes 95) 549 = .ok (.iadd, 1) := by decide +kernel
theorem i_95_550 : Jvm.ClassFile.decode (pm_bytes 95) 550 = .ok (.iaload, 1) := by decide +kernel
theorem i_95_551 : Jvm.ClassFile.decode (pm_bytes 95) 551 = .ok (.invokevirtual 94, 3) := by decide +kernel
theorem i_95_554 : Jvm.ClassFile.decode (pm_bytes 95) 554 = .ok (.istore 6, 2) := by decide +kernel
theorem i_95_556 : Jvm.ClassFile.decode (pm_bytes 95) 556 = .ok (.aload_n 2, 1) := by decide +kernel
theorem i_95_557 : Jvm.ClassFile.decode (pm_bytes 95) 557 = .ok (.invokevirtual 58, 3) := by decide +kernel
theorem i_95_560 : Jvm.ClassFile.decode (pm_bytes 95) 560 = .ok (.iload 5, 2) := by decide +kernel
theorem i_95_562 : Jvm.ClassFile.decode (pm_bytes 95) 562 = .ok (.if_icmp .eq (5), 3) := by decide +kernel
theorem i_95_565 : Jvm.ClassFile.decode (pm_bytes 95) 565 = .ok (.iconst 0, 1) := by decide +kernel
theorem i_95_566 : Jvm.ClassFile.decode (pm_bytes 95) 566 = .ok (.ireturn, 1) := by decide +kernel
theorem i_95_567 : Jvm.ClassFile.decode (pm_bytes 95) 567 = .ok (.iload 5, 2) := by decide +kernel
theorem i_95_569 : Jvm.ClassFile.decode (pm_bytes 95) 569 = .ok (.ifCond .ne (22), 3) := by decide +kernel
theorem i_95_572 : Jvm.ClassFile.decode (pm_bytes 95) 572 = .ok (.aload_n 3, 1) := by decide +kernel
theorem i_95_573 : Jvm.ClassFile.decode (pm_bytes 95) 573 = .ok (.iconst 0, 1) := by decide +kernel
theorem i_95_574 : Jvm.ClassFile.decode (pm_bytes 95) 574 = .ok (.laload, 1) := by decide +kernel
theorem i_95_575 : Jvm.ClassFile.decode (pm_bytes 95) 575 = .ok (.iload 6, 2) := by decide +kernel
theorem i_95_577 : Jvm.ClassFile.decode (pm_bytes 95) 577 = .ok (.ifCond .eq (7), 3) := by decide +kernel
theorem i_95_580 : Jvm.ClassFile.decode (pm_bytes 95) 580 = .ok (.lconst 1, 1) := by decide +kernel
theorem i_95_581 : Jvm.ClassFile.decode (pm_bytes 95) 581 = .ok (.goto (4), 3) := by decide +kernel
theorem i_95_584 : Jvm.ClassFile.decode (pm_bytes 95) 584 = .ok (.lconst 0, 1) := by decide +kernel
theorem i_95_585 : Jvm.ClassFile.decode (pm_bytes 95) 585 = .ok (.lcmp, 1) := by decide +kernel
theorem i_95_586 : Jvm.ClassFile.decode (pm_bytes 95) 586 = .ok (.ifCond .eq (5), 3) := by decide +kernel
theorem i_95_589 : Jvm.ClassFile.decode (pm_bytes 95) 589 = .ok (.iconst 0, 1) := by decide +kernel
theorem i_95_590 : Jvm.ClassFile.decode (pm_bytes 95) 590 = .ok (.ireturn, 1) := by decide +kernel
theorem i_95_591 : Jvm.ClassFile.decode (pm_bytes 95) 591 = .ok (.goto (195), 3) := by decide +kernel
theorem i_95_594 : Jvm.ClassFile.decode (pm_bytes 95) 594 = .ok (.aload_n 1, 1) := by decide +kernel
theorem i_95_595 : Jvm.ClassFile.decode (pm_bytes 95) 595 = .ok (.aload_n 0, 1) := by decide +kernel
theorem i_95_596 : Jvm.ClassFile.decode (pm_bytes 95) 596 = .ok (.iload 4, 2) := by decide +kernel
theorem i_95_598 : Jvm.ClassFile.decode (pm_bytes 95) 598 = .ok (.iconst 1, 1) := by decide +kernel
theorem i_95_599 : Jvm.ClassFile.decode (pm_bytes 95) 599 = .ok (.iadd, 1) := by decide +kernel
theorem i_95_600 : Jvm.ClassFile.decode (pm_bytes 95) 600 = .ok (.iaload, 1) := by decide +kernel
theorem i_95_601 : Jvm.ClassFile.decode (pm_bytes 95) 601 = .ok (.aload_n 0, 1) := by decide +kernel
theorem i_95_602 : Jvm.ClassFile.decode (pm_bytes 95) 602 = .ok (.iload 4, 2) := by decide +kernel
theorem i_95_604 : Jvm.ClassFile.decode (pm_bytes 95) 604 = .ok (.iconst 2, 1) := by decide +kernel
theorem i_95_605 : Jvm.ClassFile.decode (pm_bytes 95) 605 = .ok (.iadd, 1) := by decide +kernel
theorem i_95_606 : Jvm.ClassFile.decode (pm_bytes 95) 606 = .ok (.iaload, 1) := by decide +kernel
theorem i_95_607 : Jvm.ClassFile.decode (pm_bytes 95) 607 = .ok (.ifCond .eq (7), 3) := by decide +kernel
theorem i_95_610 : Jvm.ClassFile.decode (pm_bytes 95) 610 = .ok (.iconst 1, 1) := by decide +kernel
theorem i_95_611 : Jvm.ClassFile.decode (pm_bytes 95) 611 = .ok (.goto (4), 3) := by decide +kernel
theorem i_95_614 : Jvm.ClassFile.decode (pm_bytes 95) 614 = .ok (.iconst 0, 1) := by decide +kernel
theorem i_95_615 : Jvm.ClassFile.decode (pm_bytes 95) 615 = .ok (.aload_n 3, 1) := by decide +kernel
theorem i_95_616 : Jvm.ClassFile.decode (pm_bytes 95) 616 = .ok (.invokestatic 95, 3) := by decide +kernel
theorem i_95_619 : Jvm.ClassFile.decode (pm_bytes 95) 619 = .ok (.istore 5, 2) := by decide +kernel
theorem i_95_621 : Jvm.ClassFile.decode (pm_bytes 95) 621 = .ok (.aload_n 2, 1) := by decide +kernel
theorem i_95_622 : Jvm.ClassFile.decode (pm_bytes 95) 622 = .ok (.aload_n 0, 1) := by decide +kernel
theorem i_95_623 : Jvm.ClassFile.decode (pm_bytes 95) 623 = .ok (.iload 4, 2) := by decide +kernel
theorem i_95_625 : Jvm.ClassFile.decode (pm_bytes 95) 625 = .ok (.iconst 1, 1) := by decide +kernel
theorem i_95_626 : Jvm.ClassFile.decode (pm_bytes 95) 626 = .ok (.iadd, 1) := by decide +kernel
theorem i_95_627 : Jvm.ClassFile.decode (pm_bytes 95) 627 = .ok (.iaload, 1) := by decide +kernel
theorem i_95_628 : Jvm.ClassFile.decode (pm_bytes 95) 628 = .ok (.aload_n 0, 1) := by decide +kernel
theorem i_95_629 : Jvm.ClassFile.decode (pm_bytes 95) 629 = .ok (.iload 4, 2) := by decide +kernel
theorem i_95_631 : Jvm.ClassFile.decode (pm_bytes 95) 631 = .ok (.iconst 2, 1) := by decide +kernel
theorem i_95_632 : Jvm.ClassFile.decode (pm_bytes 95) 632 = .ok (.iadd, 1) := by decide +kernel
theorem i_95_633 : Jvm.ClassFile.decode (pm_bytes 95) 633 = .ok (.iaload, 1) := by decide +kernel
theorem i_95_634 : Jvm.ClassFile.decode (pm_bytes 95) 634 = .ok (.ifCond .eq (7), 3) := by decide +kernel
theorem i_95_637 : Jvm.ClassFile.decode (pm_bytes 95) 637 = .ok (.iconst 1, 1) := by decide +kernel
theorem i_95_638 : Jvm.ClassFile.decode (pm_bytes 95) 638 = .ok (.goto (4), 3) := by decide +kernel
theorem i_95_641 : Jvm.ClassFile.decode (pm_bytes 95) 641 = .ok (.iconst 0, 1) := by decide +kernel
theorem i_95_642 : Jvm.ClassFile.decode (pm_bytes 95) 642 = .ok (.invokevirtual 98, 3) := by decide +kernel
theorem i_95_645 : Jvm.ClassFile.decode (pm_bytes 95) 645 = .ok (.istore 6, 2) := by decide +kernel
theorem i_95_647 : Jvm.ClassFile.decode (pm_bytes 95) 647 = .ok (.aload_n 2, 1) := by decide +kernel
theorem i_95_648 : Jvm.ClassFile.decode (pm_bytes 95) 648 = .ok (.invokevirtual 58, 3) := by decide +kernel
theorem i_95_651 : Jvm.ClassFile.decode (pm_bytes 95) 651 = .ok (.iload 5, 2) := by decide +kernel
theorem i_95_653 : Jvm.ClassFile.decode (pm_bytes 95) 653 = .ok (.if_icmp .eq (5), 3) := by decide +kernel
theorem i_95_656 : Jvm.ClassFile.decode (pm_bytes 95) 656 = .ok (.iconst 0, 1) := by decide +kernel
theorem i_95_657 : Jvm.ClassFile.decode (pm_bytes 95) 657 = .ok (.ireturn, 1) := by decide +kernel
theorem i_95_658 : Jvm.ClassFile.decode (pm_bytes 95) 658 = .ok (.iload 5, 2) := by decide +kernel
theorem i_95_660 : Jvm.ClassFile.decode (pm_bytes 95) 660 = .ok (.ifCond .ne (22), 3) := by decide +kernel
theorem i_95_663 : Jvm.ClassFile.decode (pm_bytes 95) 663 = .ok (.aload_n 3, 1) := by decide +kernel
theorem i_95_664 : Jvm.ClassFile.decode (pm_bytes 95) 664 = .ok (.iconst 0, 1) := by decide +kernel
theorem i_95_665 : Jvm.ClassFile.decode (pm_bytes 95) 665 = .ok (.laload, 1) := by decide +kernel
theorem i_95_666 : Jvm.ClassFile.decode (pm_bytes 95) 666 = .ok (.iload 6, 2) := by decide +kernel
theorem i_95_668 : Jvm.ClassFile.decode (pm_bytes 95) 668 = .ok (.ifCond .eq (7), 3) := by decide +kernel
theorem i_95_671 : Jvm.ClassFile.decode (pm_bytes 95) 671 = .ok (.lconst 1, 1) := by decide +kernel
theorem i_95_672 : Jvm.ClassFile.decode (pm_bytes 95) 672 = .ok (.goto (4), 3) := by decide +kernel
theorem i_95_675 : Jvm.ClassFile.decode (pm_bytes 95) 675 = .ok (.lconst 0, 1) := by decide +kernel
theorem i_95_676 : Jvm.ClassFile.decode (pm_bytes 95) 676 = .ok (.lcmp, 1) := by decide +kernel
theorem i_95_677 : Jvm.ClassFile.decode (pm_bytes 95) 677 = .ok (.ifCond .eq (5), 3) := by decide +kernel
theorem i_95_680 : Jvm.ClassFile.decode (pm_bytes 95) 680 = .ok (.iconst 0, 1) := by decide +kernel
theorem i_95_681 : Jvm.ClassFile.decode (pm_bytes 95) 681 = .ok (.ireturn, 1) := by decide +kernel
theorem i_95_682 : Jvm.ClassFile.decode (pm_bytes 95) 682 = .ok (.goto (104), 3) := by decide +kernel
theorem i_95_685 : Jvm.ClassFile.decode (pm_bytes 95) 685 = .ok (.aload_n 1, 1) := by decide +kernel
theorem i_95_686 : Jvm.ClassFile.decode (pm_bytes 95) 686 = .ok (.aload_n 0, 1) := by decide +kernel
theorem i_95_687 : Jvm.ClassFile.decode (pm_bytes 95) 687 = .ok (.iload 4, 2) := by decide +kernel
theorem i_95_689 : Jvm.ClassFile.decode (pm_bytes 95) 689 = .ok (.iconst 1, 1) := by decide +kernel
theorem i_95_690 : Jvm.ClassFile.decode (pm_bytes 95) 690 = .ok (.iadd, 1) := by decide +kernel
theorem i_95_691 : Jvm.ClassFile.decode (pm_bytes 95) 691 = .ok (.iaload, 1) := by decide +kernel
theorem i_95_692 : Jvm.ClassFile.decode (pm_bytes 95) 692 = .ok (.aload_n 3, 1) := by decide +kernel
theorem i_95_693 : Jvm.ClassFile.decode (pm_bytes 95) 693 = .ok (.invokestatic 99, 3) := by decide +kernel
theorem i_95_696 : Jvm.ClassFile.decode (pm_bytes 95) 696 = .ok (.istore 5, 2) := by decide +kernel
theorem i_95_698 : Jvm.ClassFile.decode (pm_bytes 95) 698 = .ok (.aload_n 2, 1) := by decide +kernel
theorem i_95_699 : Jvm.ClassFile.decode (pm_bytes 95) 699 = .ok (.aload_n 0, 1) := by decide +kernel
theorem i_95_700 : Jvm.ClassFile.decode (pm_bytes 95) 700 = .ok (.iload 4, 2) := by decide +kernel
theorem i_95_702 : Jvm.ClassFile.decode (pm_bytes 95) 702 = .ok (.iconst 1, 1) := by decide +kernel
theorem i_95_703 : Jvm.ClassFile.decode (pm_bytes 95) 703 = .ok (.iadd, 1) := by decide +kernel
theorem i_95_704 : Jvm.ClassFile.decode (pm_bytes 95) 704 = .ok (.iaload, 1) := by decide +kernel
theorem i_95_705 : Jvm.ClassFile.decode (pm_bytes 95) 705 = .ok (.invokevirtual 101, 3) := by decide +kernel
theorem i_95_708 : Jvm.ClassFile.decode (pm_bytes 95) 708 = .ok (.istore 6, 2) := by decide +kernel
theorem i_95_710 : Jvm.ClassFile.decode (pm_bytes 95) 710 = .ok (.aload_n 2, 1) := by decide +kernel
theorem i_95_711 : Jvm.ClassFile.decode (pm_bytes 95) 711 = .ok (.invokevirtual 58, 3) := by decide +kernel
theorem i_95_714 : Jvm.ClassFile.decode (pm_bytes 95) 714 = .ok (.iload 5, 2) := by decide +kernel
theorem i_95_716 : Jvm.ClassFile.decode (pm_bytes 95) 716 = .ok (.if_icmp .eq (5), 3) := by decide +kernel
theorem i_95_719 : Jvm.ClassFile.decode (pm_bytes 95) 719 = .ok (.iconst 0, 1) := by decide +kernel
theorem i_95_720 : Jvm.ClassFile.decode (pm_bytes 95) 720 = .ok (.ireturn, 1) := by decide +kernel
theorem i_95_721 : Jvm.ClassFile.decode (pm_bytes 95) 721 = .ok (.iload 5, 2) := by decide +kernel
theorem i_95_723 : Jvm.ClassFile.decode (pm_bytes 95) 723 = .ok (.ifCond .ne (22), 3) := by decide +kernel
theorem i_95_726 : Jvm.ClassFile.decode (pm_bytes 95) 726 = .ok (.aload_n 3, 1) := by decide +kernel
theorem i_95_727 : Jvm.ClassFile.decode (pm_bytes 95) 727 = .ok (.iconst 0, 1) := by decide +kernel
theorem i_95_728 : Jvm.ClassFile.decode (pm_bytes 95) 728 = .ok (.laload, 1) := by decide +kernel
theorem i_95_729 : Jvm.ClassFile.decode (pm_bytes 95) 729 = .ok (.iload 6, 2) := by decide +kernel
theorem i_95_731 : Jvm.ClassFile.decode (pm_bytes 95) 731 = .ok (.ifCond .eq (7), 3) := by decide +kernel
theorem i_95_734 : Jvm.ClassFile.decode (pm_bytes 95) 734 = .ok (.lconst 1, 1) := by decide +kernel
theorem i_95_735 : Jvm.ClassFile.decode (pm_bytes 95) 735 = .ok (.goto (4), 3) := by decide +kernel
theorem i_95_738 : Jvm.ClassFile.decode (pm_bytes 95) 738 = .ok (.lconst 0, 1) := by decide +kernel
theorem i_95_739 : Jvm.ClassFile.decode (pm_bytes 95) 739 = .ok (.lcmp, 1) := by decide +kernel
theorem i_95_740 : Jvm.ClassFile.decode (pm_bytes 95) 740 = .ok (.ifCond .eq (5), 3) := by decide +kernel
theorem i_95_743 : Jvm.ClassFile.decode (pm_bytes 95) 743 = .ok (.iconst 0, 1) := by decide +kernel
theorem i_95_744 : Jvm.ClassFile.decode (pm_bytes 95) 744 = .ok (.ireturn, 1) := by decide +kernel
theorem i_95_745 : Jvm.ClassFile.decode (pm_bytes 95) 745 = .ok (.goto (41), 3) := by decide +kernel
theorem i_95_748 : Jvm.ClassFile.decode (pm_bytes 95) 748 = .ok (.aload_n 1, 1) := by decide +kernel
theorem i_95_749 : Jvm.ClassFile.decode (pm_bytes 95) 749 = .ok (.invokevirtual 102, 3) := by decide +kernel
theorem i_95_752 : Jvm.ClassFile.decode (pm_bytes 95) 752 = .ok (.aload_n 2, 1) := by decide +kernel
theorem i_95_753 : Jvm.ClassFile.decode (pm_bytes 95) 753 = .ok (.invokevirtual 105, 3) := by decide +kernel
theorem i_95_756 : Jvm.ClassFile.decode (pm_bytes 95) 756 = .ok (.if_icmp .eq (30), 3) := by decide +kernel
theorem i_95_759 : Jvm.ClassFile.decode (pm_bytes 95) 759 = .ok (.iconst 0, 1) := by decide +kernel
theorem i_95_760 : Jvm.ClassFile.decode (pm_bytes 95) 760 = .ok (.ireturn, 1) := by decide +kernel
theorem i_95_761 : Jvm.ClassFile.decode (pm_bytes 95) 761 = .ok (.aload_n 1, 1) := by decide +kernel
theorem i_95_762 : Jvm.ClassFile.decode (pm_bytes 95) 762 = .ok (.aload_n 0, 1) := by decide +kernel
theorem i_95_763 : Jvm.ClassFile.decode (pm_bytes 95) 763 = .ok (.iload 4, 2) := by decide +kernel
theorem i_95_765 : Jvm.ClassFile.decode (pm_bytes 95) 765 = .ok (.iconst 1, 1) := by decide +kernel
theorem i_95_766 : Jvm.ClassFile.decode (pm_bytes 95) 766 = .ok (.iadd, 1) := by decide +kernel
theorem i_95_767 : Jvm.ClassFile.decode (pm_bytes 95) 767 = .ok (.iaload, 1) := by decide +kernel
theorem i_95_768 : Jvm.ClassFile.decode (pm_bytes 95) 768 = .ok (.invokevirtual 106, 3) := by decide +kernel
theorem i_95_771 : Jvm.ClassFile.decode (pm_bytes 95) 771 = .ok (.aload_n 2, 1) := by decide +kernel
theorem i_95_772 : Jvm.ClassFile.decode (pm_bytes 95) 772 = .ok (.aload_n 0, 1) := by decide +kernel
theorem i_95_773 : Jvm.ClassFile.decode (pm_bytes 95) 773 = .ok (.iload 4, 2) := by decide +kernel
theorem i_95_775 : Jvm.ClassFile.decode (pm_bytes 95) 775 = .ok (.iconst 1, 1) := by decide +kernel
theorem i_95_776 : Jvm.ClassFile.decode (pm_bytes 95) 776 = .ok (.iadd, 1) := by decide +kernel
theorem i_95_777 : Jvm.ClassFile.decode (pm_bytes 95) 777 = .ok (.iaload, 1) := by decide +kernel
theorem i_95_778 : Jvm.ClassFile.decode (pm_bytes 95) 778 = .ok (.invokevirtual 109, 3) := by decide +kernel
theorem i_95_781 : Jvm.ClassFile.decode (pm_bytes 95) 781 = .ok (.if_icmp .eq (5), 3) := by decide +kernel
theorem i_95_784 : Jvm.ClassFile.decode (pm_bytes 95) 784 = .ok (.iconst 0, 1) := by decide +kernel
theorem i_95_785 : Jvm.ClassFile.decode (pm_bytes 95) 785 = .ok (.ireturn, 1) := by decide +kernel
theorem i_95_786 : Jvm.ClassFile.decode (pm_bytes 95) 786 = .ok (.iinc 4 (4), 3) := by decide +kernel
theorem i_95_789 : Jvm.ClassFile.decode (pm_bytes 95) 789 = .ok (.goto (-766), 3) := by decide +kernel
theorem i_95_792 : Jvm.ClassFile.decode (pm_bytes 95) 792 = .ok (.iconst 1, 1) := by decide +kernel
theorem i_95_793 : Jvm.ClassFile.decode (pm_bytes 95) 793 = .ok (.ireturn, 1) := by decide +kernel
end
section
/-! GateBench.input at 0 -/
theorem s_0_0 {L : Nat} {M : pm_M} {Q : pm_P}
    (h : ((¬ M 1 7 = 12 → ((¬ M 1 6 = 2000 → (0 ≤ M 1 7 ∧ M 1 7 < 12) ∧ (pm_R (M 1 7 + 1)) ∧ (0 ≤ M 1 6 ∧ M 1 6 < 2000) ∧ (pm_R (M 1 6 + 1)) ∧ Q (.inl (some (.inl (M 1 6)))) (pm_set (pm_set (pm_set (pm_set (pm_set (pm_set M 12 (M 1 7) (M 1 6)) 1 7 (M 1 7 + 1)) 7 (M 1 6) (-1)) 8 (M 1 6) 0) 9 (M 1 6) 0) 1 6 (M 1 6 + 1))) ∧ (¬ (¬ M 1 6 = 2000) → (1 ≤ M 99 0) ∧ Q (.inr 1) (pm_set M 99 0 (M 99 0 - 1))))) ∧ (¬ (¬ M 1 7 = 12) → (1 ≤ M 99 0) ∧ Q (.inr 1) (pm_set M 99 0 (M 99 0 - 1))))) :
    pm_X L (0, 0, [some (.inr (.inl 0))], [], M) Q := by
  refine x_aload_n i_0_0 rfl rfl ?_
  refine x_getr i_0_1 f_0_12 g_0 rfl rfl ?_
  refine x_geti (v := M 1 7) i_0_4 f_0_45 g_1 rfl (rfl) rfl ?_
  refine x_bipush i_0_7 (by decide) rfl ?_
  refine x_icmp (C := ¬ M 1 7 = 12) i_0_9 rfl Iff.rfl rfl ⟨fun c1 => ?_, fun c1 => ?_⟩
  · replace h := h.1 c1
    refine x_aload_n i_0_22 rfl rfl ?_
    refine x_callv (as := []) (rest := []) i_0_23 k_0_56 rfl rfl rfl g_0 (Nat.le_of_ble_eq_true rfl) m_18 rfl ?_
    refine x_aload_n i_18_0 rfl rfl ?_
    refine x_getr i_18_1 f_18_12 g_0 rfl rfl ?_
    refine x_geti (v := M 1 6) i_18_4 f_18_126 g_1 rfl (rfl) rfl ?_
    refine x_sipush i_18_7 (by decide) rfl ?_
    refine x_icmp (C := ¬ M 1 6 = 2000) i_18_10 rfl Iff.rfl rfl ⟨fun c2 => ?_, fun c2 => ?_⟩
    · replace h := h.1 c2
      refine x_ret i_18_23 r_18 ?_
      refine x_bkv rfl ?_
      refine x_aload_n i_0_26 rfl rfl ?_
      refine x_getr i_0_27 f_0_12 g_0 rfl rfl ?_
      refine x_callv (as := []) (rest := []) i_0_30 k_0_59 rfl rfl rfl g_1 (Nat.le_of_ble_eq_true rfl) m_24 rfl ?_
      refine x_aload_n i_24_0 rfl rfl ?_
      refine x_getr i_24_1 f_24_28 g_1 rfl rfl ?_
      refine x_aload_n i_24_4 rfl rfl ?_
      refine x_geti (v := M 1 7) i_24_5 f_24_35 g_1 rfl (rfl) rfl ?_
      refine x_aload_n i_24_8 rfl rfl ?_
      refine x_geti (v := M 1 6) i_24_9 f_24_31 g_1 rfl (rfl) rfl ?_
      obtain ⟨q3, h⟩ := h
      refine x_iastore i_24_12 g_12 rfl q3 ?_
      refine x_aload_n i_24_13 rfl rfl ?_
      refine x_dup i_24_14 rfl rfl ?_
      refine x_geti (v := M 1 7) i_24_15 f_24_35 g_1 rfl (pm_get_c (by decide) rfl) rfl ?_
      refine x_iconst i_24_18 (by decide) rfl ?_
      obtain ⟨q4, h⟩ := h
      refine x_iadd i_24_19 rfl q4 ?_
      refine x_puti i_24_20 f_24_35 g_1 rfl rfl ?_
      refine x_aload_n i_24_23 rfl rfl ?_
      refine x_iconst i_24_24 (by decide) rfl ?_
      refine x_iconst i_24_25 (by decide) rfl ?_
      refine x_iconst i_24_26 (by decide) rfl ?_
      refine x_callv (as := [.inl (-1), .inl 0, .inl 0]) (rest := []) i_24_27 k_24_38 rfl rfl rfl g_1 (Nat.le_of_ble_eq_true rfl) m_25 rfl ?_
      refine x_aload_n i_25_0 rfl rfl ?_
      refine x_geti (v := M 1 6) i_25_1 f_25_31 g_1 rfl (pm_get_j (by decide) (pm_get_c (by decide) rfl)) rfl ?_
      refine x_istore i_25_4 (Nat.le_of_ble_eq_true rfl) rfl rfl ?_
      refine x_aload_n i_25_6 rfl rfl ?_
      refine x_getr i_25_7 f_25_9 g_1 rfl rfl ?_
      refine x_iload i_25_10 rfl rfl ?_
      refine x_iload_n i_25_12 rfl rfl ?_
      obtain ⟨q5, h⟩ := h
      refine x_iastore i_25_13 g_7 rfl q5 ?_
      refine x_aload_n i_25_14 rfl rfl ?_
      refine x_getr i_25_15 f_25_15 g_1 rfl rfl ?_
      refine x_iload i_25_18 rfl rfl ?_
      refine x_iload_n i_25_20 rfl rfl ?_
      refine x_iastore i_25_21 g_8 rfl q5 ?_
      refine x_aload_n i_25_22 rfl rfl ?_
      refine x_getr i_25_23 f_25_18 g_1 rfl rfl ?_
      refine x_iload i_25_26 rfl rfl ?_
      refine x_iload_n i_25_28 rfl rfl ?_
      refine x_iastore i_25_29 g_9 rfl q5 ?_
      refine x_aload_n i_25_30 rfl rfl ?_
      refine x_dup i_25_31 rfl rfl ?_
      refine x_geti (v := M 1 6) i_25_32 f_25_31 g_1 rfl (pm_get_c (by decide) (pm_get_c (by decide) (pm_get_c (by decide) (pm_get_j (by decide) (pm_get_c (by decide) rfl))))) rfl ?_
      refine x_iconst i_25_35 (by decide) rfl ?_
      obtain ⟨q6, h⟩ := h
      refine x_iadd i_25_36 rfl q6 ?_
      refine x_puti i_25_37 f_25_31 g_1 rfl rfl ?_
      refine x_iload i_25_40 rfl rfl ?_
      refine x_ireti i_25_42 r_25 ?_
      refine x_bki rfl ?_
      refine x_ireti i_24_30 r_24 ?_
      refine x_bki rfl ?_
      exact x_ireti i_0_33 r_0 h
    · replace h := h.2 c2
      obtain ⟨q7, h⟩ := h
      refine x_throw i_18_13 t_18_49 q7 ?_
      refine x_bkt rfl ?_
      exact h
  · replace h := h.2 c1
    obtain ⟨q8, h⟩ := h
    refine x_throw i_0_12 t_0_49 q8 ?_
    exact h
/-! GateBench.not at 0 -/
theorem s_1_0 {L : Nat} {M : pm_M} {Q : pm_P} {a1 : Int}
    (h : ((a1 < 0 → (1 ≤ M 99 0) ∧ Q (.inr 0) (pm_set M 99 0 (M 99 0 - 1))) ∧ (¬ (a1 < 0) → ((a1 < M 1 6 → ((¬ M 1 6 = 2000 → (pm_R (2 * a1)) ∧ (0 ≤ M 1 6 ∧ M 1 6 < 2000) ∧ (pm_R (M 1 6 + 1)) ∧ Q (.inl (some (.inl (M 1 6)))) (pm_set (pm_set (pm_set (pm_set M 7 (M 1 6) (2 * a1)) 8 (M 1 6) 0) 9 (M 1 6) 1) 1 6 (M 1 6 + 1))) ∧ (¬ (¬ M 1 6 = 2000) → (1 ≤ M 99 0) ∧ Q (.inr 1) (pm_set M 99 0 (M 99 0 - 1))))) ∧ (¬ (a1 < M 1 6) → (1 ≤ M 99 0) ∧ Q (.inr 0) (pm_set M 99 0 (M 99 0 - 1))))))) :
    pm_X L (1, 0, [some (.inr (.inl 0)), some (.inl a1)], [], M) Q := by
  refine x_aload_n i_1_0 rfl rfl ?_
  refine x_iload_n i_1_1 rfl rfl ?_
  refine x_callv (as := [.inl a1]) (rest := []) i_1_2 k_1_63 rfl rfl rfl g_0 (Nat.le_of_ble_eq_true rfl) m_17 rfl ?_
  refine x_iload_n i_17_0 rfl rfl ?_
  refine x_if (C := a1 < 0) i_17_1 rfl Iff.rfl rfl ⟨fun c1 => ?_, fun c1 => ?_⟩
  · replace h := h.1 c1
    obtain ⟨q2, h⟩ := h
    refine x_throw i_17_15 t_17_101 q2 ?_
    refine x_bkt rfl ?_
    exact h
  · replace h := h.2 c1
    refine x_iload_n i_17_4 rfl rfl ?_
    refine x_aload_n i_17_5 rfl rfl ?_
    refine x_getr i_17_6 f_17_12 g_0 rfl rfl ?_
    refine x_geti (v := M 1 6) i_17_9 f_17_126 g_1 rfl (rfl) rfl ?_
    refine x_icmp (C := a1 < M 1 6) i_17_12 rfl Iff.rfl rfl ⟨fun c3 => ?_, fun c3 => ?_⟩
    · replace h := h.1 c3
      refine x_ret i_17_25 r_17 ?_
      refine x_bkv rfl ?_
      refine x_aload_n i_1_5 rfl rfl ?_
      refine x_callv (as := []) (rest := []) i_1_6 k_1_56 rfl rfl rfl g_0 (Nat.le_of_ble_eq_true rfl) m_18 rfl ?_
      refine x_aload_n i_18_0 rfl rfl ?_
      refine x_getr i_18_1 f_18_12 g_0 rfl rfl ?_
      refine x_geti (v := M 1 6) i_18_4 f_18_126 g_1 rfl (rfl) rfl ?_
      refine x_sipush i_18_7 (by decide) rfl ?_
      refine x_icmp (C := ¬ M 1 6 = 2000) i_18_10 rfl Iff.rfl rfl ⟨fun c4 => ?_, fun c4 => ?_⟩
      · replace h := h.1 c4
        refine x_ret i_18_23 r_18 ?_
        refine x_bkv rfl ?_
        refine x_aload_n i_1_9 rfl rfl ?_
        refine x_getr i_1_10 f_1_12 g_0 rfl rfl ?_
        refine x_iload_n i_1_13 rfl rfl ?_
        refine x_calls (as := [.inl a1]) (rest := [.inr (.inl 1)]) i_1_14 k_1_67 rfl rfl rfl (Nat.le_of_ble_eq_true rfl) m_14 rfl ?_
        refine x_iconst i_14_0 (by decide) rfl ?_
        refine x_iload_n i_14_1 rfl rfl ?_
        obtain ⟨q5, h⟩ := h
        refine x_imul i_14_2 rfl q5 ?_
        refine x_ireti i_14_3 r_14 ?_
        refine x_bki rfl ?_
        refine x_iconst i_1_17 (by decide) rfl ?_
        refine x_iconst i_1_18 (by decide) rfl ?_
        refine x_callv (as := [.inl (2 * a1), .inl 0, .inl 1]) (rest := []) i_1_19 k_1_71 rfl rfl rfl g_1 (Nat.le_of_ble_eq_true rfl) m_25 rfl ?_
        refine x_aload_n i_25_0 rfl rfl ?_
        refine x_geti (v := M 1 6) i_25_1 f_25_31 g_1 rfl (rfl) rfl ?_
        refine x_istore i_25_4 (Nat.le_of_ble_eq_true rfl) rfl rfl ?_
        refine x_aload_n i_25_6 rfl rfl ?_
        refine x_getr i_25_7 f_25_9 g_1 rfl rfl ?_
        refine x_iload i_25_10 rfl rfl ?_
        refine x_iload_n i_25_12 rfl rfl ?_
        obtain ⟨q6, h⟩ := h
        refine x_iastore i_25_13 g_7 rfl q6 ?_
        refine x_aload_n i_25_14 rfl rfl ?_
        refine x_getr i_25_15 f_25_15 g_1 rfl rfl ?_
        refine x_iload i_25_18 rfl rfl ?_
        refine x_iload_n i_25_20 rfl rfl ?_
        refine x_iastore i_25_21 g_8 rfl q6 ?_
        refine x_aload_n i_25_22 rfl rfl ?_
        refine x_getr i_25_23 f_25_18 g_1 rfl rfl ?_
        refine x_iload i_25_26 rfl rfl ?_
        refine x_iload_n i_25_28 rfl rfl ?_
        refine x_iastore i_25_29 g_9 rfl q6 ?_
        refine x_aload_n i_25_30 rfl rfl ?_
        refine x_dup i_25_31 rfl rfl ?_
        refine x_geti (v := M 1 6) i_25_32 f_25_31 g_1 rfl (pm_get_c (by decide) (pm_get_c (by decide) (pm_get_c (by decide) rfl))) rfl ?_
        refine x_iconst i_25_35 (by decide) rfl ?_
        obtain ⟨q7, h⟩ := h
        refine x_iadd i_25_36 rfl q7 ?_
        refine x_puti i_25_37 f_25_31 g_1 rfl rfl ?_
        refine x_iload i_25_40 rfl rfl ?_
        refine x_ireti i_25_42 r_25 ?_
        refine x_bki rfl ?_
        exact x_ireti i_1_22 r_1 h
      · replace h := h.2 c4
        obtain ⟨q8, h⟩ := h
        refine x_throw i_18_13 t_18_49 q8 ?_
        refine x_bkt rfl ?_
        exact h
    · replace h := h.2 c3
      obtain ⟨q9, h⟩ := h
      refine x_throw i_17_15 t_17_101 q9 ?_
      refine x_bkt rfl ?_
      exact h
/-! GateBench.join at 0 -/
theorem s_2_0 {L : Nat} {M : pm_M} {Q : pm_P} {a1 a2 a3 : Int}
    (h : ((a2 < 0 → (1 ≤ M 99 0) ∧ Q (.inr 0) (pm_set M 99 0 (M 99 0 - 1))) ∧ (¬ (a2 < 0) → ((a2 < M 1 6 → ((a3 < 0 → (1 ≤ M 99 0) ∧ Q (.inr 0) (pm_set M 99 0 (M 99 0 - 1))) ∧ (¬ (a3 < 0) → ((a3 < M 1 6 → ((a1 = 0 → ((¬ M 1 6 = 2000 → ((¬ a1 = 0 → ((¬ a1 = 1 → (pm_R (2 * a2)) ∧ (pm_R (2 * a3)) ∧ (0 ≤ M 1 6 ∧ M 1 6 < 2000) ∧ (pm_R (M 1 6 + 1)) ∧ Q (.inl (some (.inl (M 1 6)))) (pm_set (pm_set (pm_set (pm_set M 7 (M 1 6) (2 * a2)) 8 (M 1 6) (pm_op (2 * a3))) 9 (M 1 6) (2 * a3)) 1 6 (M 1 6 + 1))) ∧ (¬ (¬ a1 = 1) → (pm_R (2 * a2)) ∧ (pm_R (2 * a3)) ∧ (0 ≤ M 1 6 ∧ M 1 6 < 2000) ∧ (pm_R (M 1 6 + 1)) ∧ Q (.inl (some (.inl (M 1 6)))) (pm_set (pm_set (pm_set (pm_set M 7 (M 1 6) (2 * a2)) 8 (M 1 6) 1) 9 (M 1 6) (2 * a3)) 1 6 (M 1 6 + 1))))) ∧ (¬ (¬ a1 = 0) → (pm_R (2 * a2)) ∧ (pm_R (2 * a3)) ∧ (0 ≤ M 1 6 ∧ M 1 6 < 2000) ∧ (pm_R (M 1 6 + 1)) ∧ Q (.inl (some (.inl (M 1 6)))) (pm_set (pm_set (pm_set (pm_set M 7 (M 1 6) (2 * a2)) 8 (M 1 6) (2 * a3)) 9 (M 1 6) 0) 1 6 (M 1 6 + 1))))) ∧ (¬ (¬ M 1 6 = 2000) → (1 ≤ M 99 0) ∧ Q (.inr 1) (pm_set M 99 0 (M 99 0 - 1))))) ∧ (¬ (a1 = 0) → ((a1 = 1 → ((¬ M 1 6 = 2000 → ((¬ a1 = 1 → (pm_R (2 * a2)) ∧ (pm_R (2 * a3)) ∧ (0 ≤ M 1 6 ∧ M 1 6 < 2000) ∧ (pm_R (M 1 6 + 1)) ∧ Q (.inl (some (.inl (M 1 6)))) (pm_set (pm_set (pm_set (pm_set M 7 (M 1 6) (2 * a2)) 8 (M 1 6) (pm_op (2 * a3))) 9 (M 1 6) (2 * a3)) 1 6 (M 1 6 + 1))) ∧ (¬ (¬ a1 = 1) → (pm_R (2 * a2)) ∧ (pm_R (2 * a3)) ∧ (0 ≤ M 1 6 ∧ M 1 6 < 2000) ∧ (pm_R (M 1 6 + 1)) ∧ Q (.inl (some (.inl (M 1 6)))) (pm_set (pm_set (pm_set (pm_set M 7 (M 1 6) (2 * a2)) 8 (M 1 6) 1) 9 (M 1 6) (2 * a3)) 1 6 (M 1 6 + 1))))) ∧ (¬ (¬ M 1 6 = 2000) → (1 ≤ M 99 0) ∧ Q (.inr 1) (pm_set M 99 0 (M 99 0 - 1))))) ∧ (¬ (a1 = 1) → ((a1 = 2 → ((¬ M 1 6 = 2000 → (pm_R (2 * a2)) ∧ (pm_R (2 * a3)) ∧ (0 ≤ M 1 6 ∧ M 1 6 < 2000) ∧ (pm_R (M 1 6 + 1)) ∧ Q (.inl (some (.inl (M 1 6)))) (pm_set (pm_set (pm_set (pm_set M 7 (M 1 6) (2 * a2)) 8 (M 1 6) (pm_op (2 * a3))) 9 (M 1 6) (2 * a3)) 1 6 (M 1 6 + 1))) ∧ (¬ (¬ M 1 6 = 2000) → (1 ≤ M 99 0) ∧ Q (.inr 1) (pm_set M 99 0 (M 99 0 - 1))))) ∧ (¬ (a1 = 2) → (1 ≤ M 99 0) ∧ Q (.inr 2) (pm_set M 99 0 (M 99 0 - 1))))))))) ∧ (¬ (a3 < M 1 6) → (1 ≤ M 99 0) ∧ Q (.inr 0) (pm_set M 99 0 (M 99 0 - 1))))))) ∧ (¬ (a2 < M 1 6) → (1 ≤ M 99 0) ∧ Q (.inr 0) (pm_set M 99 0 (M 99 0 - 1))))))) :
    pm_X L (2, 0, [some (.inr (.inl 0)), some (.inl a1), some (.inl a2), some (.inl a3)], [], M) Q := by
  refine x_aload_n i_2_0 rfl rfl ?_
  refine x_iload_n i_2_1 rfl rfl ?_
  refine x_callv (as := [.inl a2]) (rest := []) i_2_2 k_2_63 rfl rfl rfl g_0 (Nat.le_of_ble_eq_true rfl) m_17 rfl ?_
  refine x_iload_n i_17_0 rfl rfl ?_
  refine x_if (C := a2 < 0) i_17_1 rfl Iff.rfl rfl ⟨fun c1 => ?_, fun c1 => ?_⟩
  · replace h := h.1 c1
    obtain ⟨q2, h⟩ := h
    refine x_throw i_17_15 t_17_101 q2 ?_
    refine x_bkt rfl ?_
    exact h
  · replace h := h.2 c1
    refine x_iload_n i_17_4 rfl rfl ?_
    refine x_aload_n i_17_5 rfl rfl ?_
    refine x_getr i_17_6 f_17_12 g_0 rfl rfl ?_
    refine x_geti (v := M 1 6) i_17_9 f_17_126 g_1 rfl (rfl) rfl ?_
    refine x_icmp (C := a2 < M 1 6) i_17_12 rfl Iff.rfl rfl ⟨fun c3 => ?_, fun c3 => ?_⟩
    · replace h := h.1 c3
      refine x_ret i_17_25 r_17 ?_
      refine x_bkv rfl ?_
      refine x_aload_n i_2_5 rfl rfl ?_
      refine x_iload_n i_2_6 rfl rfl ?_
      refine x_callv (as := [.inl a3]) (rest := []) i_2_7 k_2_63 rfl rfl rfl g_0 (Nat.le_of_ble_eq_true rfl) m_17 rfl ?_
      refine x_iload_n i_17_0 rfl rfl ?_
      refine x_if (C := a3 < 0) i_17_1 rfl Iff.rfl rfl ⟨fun c4 => ?_, fun c4 => ?_⟩
      · replace h := h.1 c4
        obtain ⟨q5, h⟩ := h
        refine x_throw i_17_15 t_17_101 q5 ?_
        refine x_bkt rfl ?_
        exact h
      · replace h := h.2 c4
        refine x_iload_n i_17_4 rfl rfl ?_
        refine x_aload_n i_17_5 rfl rfl ?_
        refine x_getr i_17_6 f_17_12 g_0 rfl rfl ?_
        refine x_geti (v := M 1 6) i_17_9 f_17_126 g_1 rfl (rfl) rfl ?_
        refine x_icmp (C := a3 < M 1 6) i_17_12 rfl Iff.rfl rfl ⟨fun c6 => ?_, fun c6 => ?_⟩
        · replace h := h.1 c6
          refine x_ret i_17_25 r_17 ?_
          refine x_bkv rfl ?_
          refine x_iload_n i_2_10 rfl rfl ?_
          refine x_if (C := a1 = 0) i_2_11 rfl Iff.rfl rfl ⟨fun c7 => ?_, fun c7 => ?_⟩
          · replace h := h.1 c7
            refine x_aload_n i_2_34 rfl rfl ?_
            refine x_callv (as := []) (rest := []) i_2_35 k_2_56 rfl rfl rfl g_0 (Nat.le_of_ble_eq_true rfl) m_18 rfl ?_
            refine x_aload_n i_18_0 rfl rfl ?_
            refine x_getr i_18_1 f_18_12 g_0 rfl rfl ?_
            refine x_geti (v := M 1 6) i_18_4 f_18_126 g_1 rfl (rfl) rfl ?_
            refine x_sipush i_18_7 (by decide) rfl ?_
            refine x_icmp (C := ¬ M 1 6 = 2000) i_18_10 rfl Iff.rfl rfl ⟨fun c8 => ?_, fun c8 => ?_⟩
            · replace h := h.1 c8
              refine x_ret i_18_23 r_18 ?_
              refine x_bkv rfl ?_
              refine x_iload_n i_2_38 rfl rfl ?_
              refine x_if (C := ¬ a1 = 0) i_2_39 rfl Iff.rfl rfl ⟨fun c9 => ?_, fun c9 => ?_⟩
              · replace h := h.1 c9
                refine x_iload_n i_2_59 rfl rfl ?_
                refine x_iconst i_2_60 (by decide) rfl ?_
                refine x_icmp (C := ¬ a1 = 1) i_2_61 rfl Iff.rfl rfl ⟨fun c10 => ?_, fun c10 => ?_⟩
                · replace h := h.1 c10
                  refine x_aload_n i_2_81 rfl rfl ?_
                  refine x_getr i_2_82 f_2_12 g_0 rfl rfl ?_
                  refine x_iload_n i_2_85 rfl rfl ?_
                  refine x_calls (as := [.inl a2]) (rest := [.inr (.inl 1)]) i_2_86 k_2_67 rfl rfl rfl (Nat.le_of_ble_eq_true rfl) m_14 rfl ?_
                  refine x_iconst i_14_0 (by decide) rfl ?_
                  refine x_iload_n i_14_1 rfl rfl ?_
                  obtain ⟨q11, h⟩ := h
                  refine x_imul i_14_2 rfl q11 ?_
                  refine x_ireti i_14_3 r_14 ?_
                  refine x_bki rfl ?_
                  refine x_iload_n i_2_89 rfl rfl ?_
                  refine x_calls (as := [.inl a3]) (rest := [.inl (2 * a2), .inr (.inl 1)]) i_2_90 k_2_67 rfl rfl rfl (Nat.le_of_ble_eq_true rfl) m_14 rfl ?_
                  refine x_iconst i_14_0 (by decide) rfl ?_
                  refine x_iload_n i_14_1 rfl rfl ?_
                  obtain ⟨q12, h⟩ := h
                  refine x_imul i_14_2 rfl q12 ?_
                  refine x_ireti i_14_3 r_14 ?_
                  refine x_bki rfl ?_
                  refine x_calls (as := [.inl (2 * a3)]) (rest := [.inl (2 * a2), .inr (.inl 1)]) i_2_93 k_2_80 rfl rfl rfl (Nat.le_of_ble_eq_true rfl) m_15 rfl ?_
                  refine x_iload_n i_15_0 rfl rfl ?_
                  refine x_iconst i_15_1 (by decide) rfl ?_
                  refine x_ixor i_15_2 rfl ?_
                  refine x_ireti i_15_3 r_15 ?_
                  refine x_bki rfl ?_
                  refine x_iload_n i_2_96 rfl rfl ?_
                  refine x_calls (as := [.inl a3]) (rest := [.inl (pm_op (2 * a3)), .inl (2 * a2), .inr (.inl 1)]) i_2_97 k_2_67 rfl rfl rfl (Nat.le_of_ble_eq_true rfl) m_14 rfl ?_
                  refine x_iconst i_14_0 (by decide) rfl ?_
                  refine x_iload_n i_14_1 rfl rfl ?_
                  refine x_imul i_14_2 rfl q12 ?_
                  refine x_ireti i_14_3 r_14 ?_
                  refine x_bki rfl ?_
                  refine x_callv (as := [.inl (2 * a2), .inl (pm_op (2 * a3)), .inl (2 * a3)]) (rest := []) i_2_100 k_2_71 rfl rfl rfl g_1 (Nat.le_of_ble_eq_true rfl) m_25 rfl ?_
                  refine x_aload_n i_25_0 rfl rfl ?_
                  refine x_geti (v := M 1 6) i_25_1 f_25_31 g_1 rfl (rfl) rfl ?_
                  refine x_istore i_25_4 (Nat.le_of_ble_eq_true rfl) rfl rfl ?_
                  refine x_aload_n i_25_6 rfl rfl ?_
                  refine x_getr i_25_7 f_25_9 g_1 rfl rfl ?_
                  refine x_iload i_25_10 rfl rfl ?_
                  refine x_iload_n i_25_12 rfl rfl ?_
                  obtain ⟨q13, h⟩ := h
                  refine x_iastore i_25_13 g_7 rfl q13 ?_
                  refine x_aload_n i_25_14 rfl rfl ?_
                  refine x_getr i_25_15 f_25_15 g_1 rfl rfl ?_
                  refine x_iload i_25_18 rfl rfl ?_
                  refine x_iload_n i_25_20 rfl rfl ?_
                  refine x_iastore i_25_21 g_8 rfl q13 ?_
                  refine x_aload_n i_25_22 rfl rfl ?_
                  refine x_getr i_25_23 f_25_18 g_1 rfl rfl ?_
                  refine x_iload i_25_26 rfl rfl ?_
                  refine x_iload_n i_25_28 rfl rfl ?_
                  refine x_iastore i_25_29 g_9 rfl q13 ?_
                  refine x_aload_n i_25_30 rfl rfl ?_
                  refine x_dup i_25_31 rfl rfl ?_
                  refine x_geti (v := M 1 6) i_25_32 f_25_31 g_1 rfl (pm_get_c (by decide) (pm_get_c (by decide) (pm_get_c (by decide) rfl))) rfl ?_
                  refine x_iconst i_25_35 (by decide) rfl ?_
                  obtain ⟨q14, h⟩ := h
                  refine x_iadd i_25_36 rfl q14 ?_
                  refine x_puti i_25_37 f_25_31 g_1 rfl rfl ?_
                  refine x_iload i_25_40 rfl rfl ?_
                  refine x_ireti i_25_42 r_25 ?_
                  refine x_bki rfl ?_
                  exact x_ireti i_2_103 r_2 h
                · replace h := h.2 c10
                  refine x_aload_n i_2_64 rfl rfl ?_
                  refine x_getr i_2_65 f_2_12 g_0 rfl rfl ?_
                  refine x_iload_n i_2_68 rfl rfl ?_
                  refine x_calls (as := [.inl a2]) (rest := [.inr (.inl 1)]) i_2_69 k_2_67 rfl rfl rfl (Nat.le_of_ble_eq_true rfl) m_14 rfl ?_
                  refine x_iconst i_14_0 (by decide) rfl ?_
                  refine x_iload_n i_14_1 rfl rfl ?_
                  obtain ⟨q15, h⟩ := h
                  refine x_imul i_14_2 rfl q15 ?_
                  refine x_ireti i_14_3 r_14 ?_
                  refine x_bki rfl ?_
                  refine x_iconst i_2_72 (by decide) rfl ?_
                  refine x_iload_n i_2_73 rfl rfl ?_
                  refine x_calls (as := [.inl a3]) (rest := [.inl 1, .inl (2 * a2), .inr (.inl 1)]) i_2_74 k_2_67 rfl rfl rfl (Nat.le_of_ble_eq_true rfl) m_14 rfl ?_
                  refine x_iconst i_14_0 (by decide) rfl ?_
                  refine x_iload_n i_14_1 rfl rfl ?_
                  obtain ⟨q16, h⟩ := h
                  refine x_imul i_14_2 rfl q16 ?_
                  refine x_ireti i_14_3 r_14 ?_
                  refine x_bki rfl ?_
                  refine x_callv (as := [.inl (2 * a2), .inl 1, .inl (2 * a3)]) (rest := []) i_2_77 k_2_71 rfl rfl rfl g_1 (Nat.le_of_ble_eq_true rfl) m_25 rfl ?_
                  refine x_aload_n i_25_0 rfl rfl ?_
                  refine x_geti (v := M 1 6) i_25_1 f_25_31 g_1 rfl (rfl) rfl ?_
                  refine x_istore i_25_4 (Nat.le_of_ble_eq_true rfl) rfl rfl ?_
                  refine x_aload_n i_25_6 rfl rfl ?_
                  refine x_getr i_25_7 f_25_9 g_1 rfl rfl ?_
                  refine x_iload i_25_10 rfl rfl ?_
                  refine x_iload_n i_25_12 rfl rfl ?_
                  obtain ⟨q17, h⟩ := h
                  refine x_iastore i_25_13 g_7 rfl q17 ?_
                  refine x_aload_n i_25_14 rfl rfl ?_
                  refine x_getr i_25_15 f_25_15 g_1 rfl rfl ?_
                  refine x_iload i_25_18 rfl rfl ?_
                  refine x_iload_n i_25_20 rfl rfl ?_
                  refine x_iastore i_25_21 g_8 rfl q17 ?_
                  refine x_aload_n i_25_22 rfl rfl ?_
                  refine x_getr i_25_23 f_25_18 g_1 rfl rfl ?_
                  refine x_iload i_25_26 rfl rfl ?_
                  refine x_iload_n i_25_28 rfl rfl ?_
                  refine x_iastore i_25_29 g_9 rfl q17 ?_
                  refine x_aload_n i_25_30 rfl rfl ?_
                  refine x_dup i_25_31 rfl rfl ?_
                  refine x_geti (v := M 1 6) i_25_32 f_25_31 g_1 rfl (pm_get_c (by decide) (pm_get_c (by decide) (pm_get_c (by decide) rfl))) rfl ?_
                  refine x_iconst i_25_35 (by decide) rfl ?_
                  obtain ⟨q18, h⟩ := h
                  refine x_iadd i_25_36 rfl q18 ?_
                  refine x_puti i_25_37 f_25_31 g_1 rfl rfl ?_
                  refine x_iload i_25_40 rfl rfl ?_
                  refine x_ireti i_25_42 r_25 ?_
                  refine x_bki rfl ?_
                  exact x_ireti i_2_80 r_2 h
              · replace h := h.2 c9
                refine x_aload_n i_2_42 rfl rfl ?_
                refine x_getr i_2_43 f_2_12 g_0 rfl rfl ?_
                refine x_iload_n i_2_46 rfl rfl ?_
                refine x_calls (as := [.inl a2]) (rest := [.inr (.inl 1)]) i_2_47 k_2_67 rfl rfl rfl (Nat.le_of_ble_eq_true rfl) m_14 rfl ?_
                refine x_iconst i_14_0 (by decide) rfl ?_
                refine x_iload_n i_14_1 rfl rfl ?_
                obtain ⟨q19, h⟩ := h
                refine x_imul i_14_2 rfl q19 ?_
                refine x_ireti i_14_3 r_14 ?_
                refine x_bki rfl ?_
                refine x_iload_n i_2_50 rfl rfl ?_
                refine x_calls (as := [.inl a3]) (rest := [.inl (2 * a2), .inr (.inl 1)]) i_2_51 k_2_67 rfl rfl rfl (Nat.le_of_ble_eq_true rfl) m_14 rfl ?_
                refine x_iconst i_14_0 (by decide) rfl ?_
                refine x_iload_n i_14_1 rfl rfl ?_
                obtain ⟨q20, h⟩ := h
                refine x_imul i_14_2 rfl q20 ?_
                refine x_ireti i_14_3 r_14 ?_
                refine x_bki rfl ?_
                refine x_iconst i_2_54 (by decide) rfl ?_
                refine x_callv (as := [.inl (2 * a2), .inl (2 * a3), .inl 0]) (rest := []) i_2_55 k_2_71 rfl rfl rfl g_1 (Nat.le_of_ble_eq_true rfl) m_25 rfl ?_
                refine x_aload_n i_25_0 rfl rfl ?_
                refine x_geti (v := M 1 6) i_25_1 f_25_31 g_1 rfl (rfl) rfl ?_
                refine x_istore i_25_4 (Nat.le_of_ble_eq_true rfl) rfl rfl ?_
                refine x_aload_n i_25_6 rfl rfl ?_
                refine x_getr i_25_7 f_25_9 g_1 rfl rfl ?_
                refine x_iload i_25_10 rfl rfl ?_
                refine x_iload_n i_25_12 rfl rfl ?_
                obtain ⟨q21, h⟩ := h
                refine x_iastore i_25_13 g_7 rfl q21 ?_
                refine x_aload_n i_25_14 rfl rfl ?_
                refine x_getr i_25_15 f_25_15 g_1 rfl rfl ?_
                refine x_iload i_25_18 rfl rfl ?_
                refine x_iload_n i_25_20 rfl rfl ?_
                refine x_iastore i_25_21 g_8 rfl q21 ?_
                refine x_aload_n i_25_22 rfl rfl ?_
                refine x_getr i_25_23 f_25_18 g_1 rfl rfl ?_
                refine x_iload i_25_26 rfl rfl ?_
                refine x_iload_n i_25_28 rfl rfl ?_
                refine x_iastore i_25_29 g_9 rfl q21 ?_
                refine x_aload_n i_25_30 rfl rfl ?_
                refine x_dup i_25_31 rfl rfl ?_
                refine x_geti (v := M 1 6) i_25_32 f_25_31 g_1 rfl (pm_get_c (by decide) (pm_get_c (by decide) (pm_get_c (by decide) rfl))) rfl ?_
                refine x_iconst i_25_35 (by decide) rfl ?_
                obtain ⟨q22, h⟩ := h
                refine x_iadd i_25_36 rfl q22 ?_
                refine x_puti i_25_37 f_25_31 g_1 rfl rfl ?_
                refine x_iload i_25_40 rfl rfl ?_
                refine x_ireti i_25_42 r_25 ?_
                refine x_bki rfl ?_
                exact x_ireti i_2_58 r_2 h
            · replace h := h.2 c8
              obtain ⟨q23, h⟩ := h
              refine x_throw i_18_13 t_18_49 q23 ?_
              refine x_bkt rfl ?_
              exact h
          · replace h := h.2 c7
            refine x_iload_n i_2_14 rfl rfl ?_
            refine x_iconst i_2_15 (by decide) rfl ?_
            refine x_icmp (C := a1 = 1) i_2_16 rfl Iff.rfl rfl ⟨fun c24 => ?_, fun c24 => ?_⟩
            · replace h := h.1 c24
              refine x_aload_n i_2_34 rfl rfl ?_
              refine x_callv (as := []) (rest := []) i_2_35 k_2_56 rfl rfl rfl g_0 (Nat.le_of_ble_eq_true rfl) m_18 rfl ?_
              refine x_aload_n i_18_0 rfl rfl ?_
              refine x_getr i_18_1 f_18_12 g_0 rfl rfl ?_
              refine x_geti (v := M 1 6) i_18_4 f_18_126 g_1 rfl (rfl) rfl ?_
              refine x_sipush i_18_7 (by decide) rfl ?_
              refine x_icmp (C := ¬ M 1 6 = 2000) i_18_10 rfl Iff.rfl rfl ⟨fun c25 => ?_, fun c25 => ?_⟩
              · replace h := h.1 c25
                refine x_ret i_18_23 r_18 ?_
                refine x_bkv rfl ?_
                refine x_iload_n i_2_38 rfl rfl ?_
                refine x_ifT i_2_39 rfl c7 ?_
                refine x_iload_n i_2_59 rfl rfl ?_
                refine x_iconst i_2_60 (by decide) rfl ?_
                refine x_icmp (C := ¬ a1 = 1) i_2_61 rfl Iff.rfl rfl ⟨fun c26 => ?_, fun c26 => ?_⟩
                · replace h := h.1 c26
                  refine x_aload_n i_2_81 rfl rfl ?_
                  refine x_getr i_2_82 f_2_12 g_0 rfl rfl ?_
                  refine x_iload_n i_2_85 rfl rfl ?_
                  refine x_calls (as := [.inl a2]) (rest := [.inr (.inl 1)]) i_2_86 k_2_67 rfl rfl rfl (Nat.le_of_ble_eq_true rfl) m_14 rfl ?_
                  refine x_iconst i_14_0 (by decide) rfl ?_
                  refine x_iload_n i_14_1 rfl rfl ?_
                  obtain ⟨q27, h⟩ := h
                  refine x_imul i_14_2 rfl q27 ?_
                  refine x_ireti i_14_3 r_14 ?_
                  refine x_bki rfl ?_
                  refine x_iload_n i_2_89 rfl rfl ?_
                  refine x_calls (as := [.inl a3]) (rest := [.inl (2 * a2), .inr (.inl 1)]) i_2_90 k_2_67 rfl rfl rfl (Nat.le_of_ble_eq_true rfl) m_14 rfl ?_
                  refine x_iconst i_14_0 (by decide) rfl ?_
                  refine x_iload_n i_14_1 rfl rfl ?_
                  obtain ⟨q28, h⟩ := h
                  refine x_imul i_14_2 rfl q28 ?_
                  refine x_ireti i_14_3 r_14 ?_
                  refine x_bki rfl ?_
                  refine x_calls (as := [.inl (2 * a3)]) (rest := [.inl (2 * a2), .inr (.inl 1)]) i_2_93 k_2_80 rfl rfl rfl (Nat.le_of_ble_eq_true rfl) m_15 rfl ?_
                  refine x_iload_n i_15_0 rfl rfl ?_
                  refine x_iconst i_15_1 (by decide) rfl ?_
                  refine x_ixor i_15_2 rfl ?_
                  refine x_ireti i_15_3 r_15 ?_
                  refine x_bki rfl ?_
                  refine x_iload_n i_2_96 rfl rfl ?_
                  refine x_calls (as := [.inl a3]) (rest := [.inl (pm_op (2 * a3)), .inl (2 * a2), .inr (.inl 1)]) i_2_97 k_2_67 rfl rfl rfl (Nat.le_of_ble_eq_true rfl) m_14 rfl ?_
                  refine x_iconst i_14_0 (by decide) rfl ?_
                  refine x_iload_n i_14_1 rfl rfl ?_
                  refine x_imul i_14_2 rfl q28 ?_
                  refine x_ireti i_14_3 r_14 ?_
                  refine x_bki rfl ?_
                  refine x_callv (as := [.inl (2 * a2), .inl (pm_op (2 * a3)), .inl (2 * a3)]) (rest := []) i_2_100 k_2_71 rfl rfl rfl g_1 (Nat.le_of_ble_eq_true rfl) m_25 rfl ?_
                  refine x_aload_n i_25_0 rfl rfl ?_
                  refine x_geti (v := M 1 6) i_25_1 f_25_31 g_1 rfl (rfl) rfl ?_
                  refine x_istore i_25_4 (Nat.le_of_ble_eq_true rfl) rfl rfl ?_
                  refine x_aload_n i_25_6 rfl rfl ?_
                  refine x_getr i_25_7 f_25_9 g_1 rfl rfl ?_
                  refine x_iload i_25_10 rfl rfl ?_
                  refine x_iload_n i_25_12 rfl rfl ?_
                  obtain ⟨q29, h⟩ := h
                  refine x_iastore i_25_13 g_7 rfl q29 ?_
                  refine x_aload_n i_25_14 rfl rfl ?_
                  refine x_getr i_25_15 f_25_15 g_1 rfl rfl ?_
                  refine x_iload i_25_18 rfl rfl ?_
                  refine x_iload_n i_25_20 rfl rfl ?_
                  refine x_iastore i_25_21 g_8 rfl q29 ?_
                  refine x_aload_n i_25_22 rfl rfl ?_
                  refine x_getr i_25_23 f_25_18 g_1 rfl rfl ?_
                  refine x_iload i_25_26 rfl rfl ?_
                  refine x_iload_n i_25_28 rfl rfl ?_
                  refine x_iastore i_25_29 g_9 rfl q29 ?_
                  refine x_aload_n i_25_30 rfl rfl ?_
                  refine x_dup i_25_31 rfl rfl ?_
                  refine x_geti (v := M 1 6) i_25_32 f_25_31 g_1 rfl (pm_get_c (by decide) (pm_get_c (by decide) (pm_get_c (by decide) rfl))) rfl ?_
                  refine x_iconst i_25_35 (by decide) rfl ?_
                  obtain ⟨q30, h⟩ := h
                  refine x_iadd i_25_36 rfl q30 ?_
                  refine x_puti i_25_37 f_25_31 g_1 rfl rfl ?_
                  refine x_iload i_25_40 rfl rfl ?_
                  refine x_ireti i_25_42 r_25 ?_
                  refine x_bki rfl ?_
                  exact x_ireti i_2_103 r_2 h
                · replace h := h.2 c26
                  refine x_aload_n i_2_64 rfl rfl ?_
                  refine x_getr i_2_65 f_2_12 g_0 rfl rfl ?_
                  refine x_iload_n i_2_68 rfl rfl ?_
                  refine x_calls (as := [.inl a2]) (rest := [.inr (.inl 1)]) i_2_69 k_2_67 rfl rfl rfl (Nat.le_of_ble_eq_true rfl) m_14 rfl ?_
                  refine x_iconst i_14_0 (by decide) rfl ?_
                  refine x_iload_n i_14_1 rfl rfl ?_
                  obtain ⟨q31, h⟩ := h
                  refine x_imul i_14_2 rfl q31 ?_
                  refine x_ireti i_14_3 r_14 ?_
                  refine x_bki rfl ?_
                  refine x_iconst i_2_72 (by decide) rfl ?_
                  refine x_iload_n i_2_73 rfl rfl ?_
                  refine x_calls (as := [.inl a3]) (rest := [.inl 1, .inl (2 * a2), .inr (.inl 1)]) i_2_74 k_2_67 rfl rfl rfl (Nat.le_of_ble_eq_true rfl) m_14 rfl ?_
                  refine x_iconst i_14_0 (by decide) rfl ?_
                  refine x_iload_n i_14_1 rfl rfl ?_
                  obtain ⟨q32, h⟩ := h
                  refine x_imul i_14_2 rfl q32 ?_
                  refine x_ireti i_14_3 r_14 ?_
                  refine x_bki rfl ?_
                  refine x_callv (as := [.inl (2 * a2), .inl 1, .inl (2 * a3)]) (rest := []) i_2_77 k_2_71 rfl rfl rfl g_1 (Nat.le_of_ble_eq_true rfl) m_25 rfl ?_
                  refine x_aload_n i_25_0 rfl rfl ?_
                  refine x_geti (v := M 1 6) i_25_1 f_25_31 g_1 rfl (rfl) rfl ?_
                  refine x_istore i_25_4 (Nat.le_of_ble_eq_true rfl) rfl rfl ?_
                  refine x_aload_n i_25_6 rfl rfl ?_
                  refine x_getr i_25_7 f_25_9 g_1 rfl rfl ?_
                  refine x_iload i_25_10 rfl rfl ?_
                  refine x_iload_n i_25_12 rfl rfl ?_
                  obtain ⟨q33, h⟩ := h
                  refine x_iastore i_25_13 g_7 rfl q33 ?_
                  refine x_aload_n i_25_14 rfl rfl ?_
                  refine x_getr i_25_15 f_25_15 g_1 rfl rfl ?_
                  refine x_iload i_25_18 rfl rfl ?_
                  refine x_iload_n i_25_20 rfl rfl ?_
                  refine x_iastore i_25_21 g_8 rfl q33 ?_
                  refine x_aload_n i_25_22 rfl rfl ?_
                  refine x_getr i_25_23 f_25_18 g_1 rfl rfl ?_
                  refine x_iload i_25_26 rfl rfl ?_
                  refine x_iload_n i_25_28 rfl rfl ?_
                  refine x_iastore i_25_29 g_9 rfl q33 ?_
                  refine x_aload_n i_25_30 rfl rfl ?_
                  refine x_dup i_25_31 rfl rfl ?_
                  refine x_geti (v := M 1 6) i_25_32 f_25_31 g_1 rfl (pm_get_c (by decide) (pm_get_c (by decide) (pm_get_c (by decide) rfl))) rfl ?_
                  refine x_iconst i_25_35 (by decide) rfl ?_
                  obtain ⟨q34, h⟩ := h
                  refine x_iadd i_25_36 rfl q34 ?_
                  refine x_puti i_25_37 f_25_31 g_1 rfl rfl ?_
                  refine x_iload i_25_40 rfl rfl ?_
                  refine x_ireti i_25_42 r_25 ?_
                  refine x_bki rfl ?_
                  exact x_ireti i_2_80 r_2 h
              · replace h := h.2 c25
                obtain ⟨q35, h⟩ := h
                refine x_throw i_18_13 t_18_49 q35 ?_
                refine x_bkt rfl ?_
                exact h
            · replace h := h.2 c24
              refine x_iload_n i_2_19 rfl rfl ?_
              refine x_iconst i_2_20 (by decide) rfl ?_
              refine x_icmp (C := a1 = 2) i_2_21 rfl Iff.rfl rfl ⟨fun c36 => ?_, fun c36 => ?_⟩
              · replace h := h.1 c36
                refine x_aload_n i_2_34 rfl rfl ?_
                refine x_callv (as := []) (rest := []) i_2_35 k_2_56 rfl rfl rfl g_0 (Nat.le_of_ble_eq_true rfl) m_18 rfl ?_
                refine x_aload_n i_18_0 rfl rfl ?_
                refine x_getr i_18_1 f_18_12 g_0 rfl rfl ?_
                refine x_geti (v := M 1 6) i_18_4 f_18_126 g_1 rfl (rfl) rfl ?_
                refine x_sipush i_18_7 (by decide) rfl ?_
                refine x_icmp (C := ¬ M 1 6 = 2000) i_18_10 rfl Iff.rfl rfl ⟨fun c37 => ?_, fun c37 => ?_⟩
                · replace h := h.1 c37
                  refine x_ret i_18_23 r_18 ?_
                  refine x_bkv rfl ?_
                  refine x_iload_n i_2_38 rfl rfl ?_
                  refine x_ifT i_2_39 rfl c7 ?_
                  refine x_iload_n i_2_59 rfl rfl ?_
                  refine x_iconst i_2_60 (by decide) rfl ?_
                  refine x_icmpT i_2_61 rfl c24 ?_
                  refine x_aload_n i_2_81 rfl rfl ?_
                  refine x_getr i_2_82 f_2_12 g_0 rfl rfl ?_
                  refine x_iload_n i_2_85 rfl rfl ?_
                  refine x_calls (as := [.inl a2]) (rest := [.inr (.inl 1)]) i_2_86 k_2_67 rfl rfl rfl (Nat.le_of_ble_eq_true rfl) m_14 rfl ?_
                  refine x_iconst i_14_0 (by decide) rfl ?_
                  refine x_iload_n i_14_1 rfl rfl ?_
                  obtain ⟨q38, h⟩ := h
                  refine x_imul i_14_2 rfl q38 ?_
                  refine x_ireti i_14_3 r_14 ?_
                  refine x_bki rfl ?_
                  refine x_iload_n i_2_89 rfl rfl ?_
                  refine x_calls (as := [.inl a3]) (rest := [.inl (2 * a2), .inr (.inl 1)]) i_2_90 k_2_67 rfl rfl rfl (Nat.le_of_ble_eq_true rfl) m_14 rfl ?_
                  refine x_iconst i_14_0 (by decide) rfl ?_
                  refine x_iload_n i_14_1 rfl rfl ?_
                  obtain ⟨q39, h⟩ := h
                  refine x_imul i_14_2 rfl q39 ?_
                  refine x_ireti i_14_3 r_14 ?_
                  refine x_bki rfl ?_
                  refine x_calls (as := [.inl (2 * a3)]) (rest := [.inl (2 * a2), .inr (.inl 1)]) i_2_93 k_2_80 rfl rfl rfl (Nat.le_of_ble_eq_true rfl) m_15 rfl ?_
                  refine x_iload_n i_15_0 rfl rfl ?_
                  refine x_iconst i_15_1 (by decide) rfl ?_
                  refine x_ixor i_15_2 rfl ?_
                  refine x_ireti i_15_3 r_15 ?_
                  refine x_bki rfl ?_
                  refine x_iload_n i_2_96 rfl rfl ?_
                  refine x_calls (as := [.inl a3]) (rest := [.inl (pm_op (2 * a3)), .inl (2 * a2), .inr (.inl 1)]) i_2_97 k_2_67 rfl rfl rfl (Nat.le_of_ble_eq_true rfl) m_14 rfl ?_
                  refine x_iconst i_14_0 (by decide) rfl ?_
                  refine x_iload_n i_14_1 rfl rfl ?_
                  refine x_imul i_14_2 rfl q39 ?_
                  refine x_ireti i_14_3 r_14 ?_
                  refine x_bki rfl ?_
                  refine x_callv (as := [.inl (2 * a2), .inl (pm_op (2 * a3)), .inl (2 * a3)]) (rest := []) i_2_100 k_2_71 rfl rfl rfl g_1 (Nat.le_of_ble_eq_true rfl) m_25 rfl ?_
                  refine x_aload_n i_25_0 rfl rfl ?_
                  refine x_geti (v := M 1 6) i_25_1 f_25_31 g_1 rfl (rfl) rfl ?_
                  refine x_istore i_25_4 (Nat.le_of_ble_eq_true rfl) rfl rfl ?_
                  refine x_aload_n i_25_6 rfl rfl ?_
                  refine x_getr i_25_7 f_25_9 g_1 rfl rfl ?_
                  refine x_iload i_25_10 rfl rfl ?_
                  refine x_iload_n i_25_12 rfl rfl ?_
                  obtain ⟨q40, h⟩ := h
                  refine x_iastore i_25_13 g_7 rfl q40 ?_
                  refine x_aload_n i_25_14 rfl rfl ?_
                  refine x_getr i_25_15 f_25_15 g_1 rfl rfl ?_
                  refine x_iload i_25_18 rfl rfl ?_
                  refine x_iload_n i_25_20 rfl rfl ?_
                  refine x_iastore i_25_21 g_8 rfl q40 ?_
                  refine x_aload_n i_25_22 rfl rfl ?_
                  refine x_getr i_25_23 f_25_18 g_1 rfl rfl ?_
                  refine x_iload i_25_26 rfl rfl ?_
                  refine x_iload_n i_25_28 rfl rfl ?_
                  refine x_iastore i_25_29 g_9 rfl q40 ?_
                  refine x_aload_n i_25_30 rfl rfl ?_
                  refine x_dup i_25_31 rfl rfl ?_
                  refine x_geti (v := M 1 6) i_25_32 f_25_31 g_1 rfl (pm_get_c (by decide) (pm_get_c (by decide) (pm_get_c (by decide) rfl))) rfl ?_
                  refine x_iconst i_25_35 (by decide) rfl ?_
                  obtain ⟨q41, h⟩ := h
                  refine x_iadd i_25_36 rfl q41 ?_
                  refine x_puti i_25_37 f_25_31 g_1 rfl rfl ?_
                  refine x_iload i_25_40 rfl rfl ?_
                  refine x_ireti i_25_42 r_25 ?_
                  refine x_bki rfl ?_
                  exact x_ireti i_2_103 r_2 h
                · replace h := h.2 c37
                  obtain ⟨q42, h⟩ := h
                  refine x_throw i_18_13 t_18_49 q42 ?_
                  refine x_bkt rfl ?_
                  exact h
              · replace h := h.2 c36
                obtain ⟨q43, h⟩ := h
                refine x_throw i_2_24 t_2_75 q43 ?_
                exact h
        · replace h := h.2 c6
          obtain ⟨q44, h⟩ := h
          refine x_throw i_17_15 t_17_101 q44 ?_
          refine x_bkt rfl ?_
          exact h
    · replace h := h.2 c3
      obtain ⟨q45, h⟩ := h
      refine x_throw i_17_15 t_17_101 q45 ?_
      refine x_bkt rfl ?_
      exact h
/-! GateBench.choose at 0 -/
theorem s_3_0 {L : Nat} {M : pm_M} {Q : pm_P} {a1 a2 a3 : Int}
    (h : ((a1 < 0 → (1 ≤ M 99 0) ∧ Q (.inr 0) (pm_set M 99 0 (M 99 0 - 1))) ∧ (¬ (a1 < 0) → ((a1 < M 1 6 → ((a2 < 0 → (1 ≤ M 99 0) ∧ Q (.inr 0) (pm_set M 99 0 (M 99 0 - 1))) ∧ (¬ (a2 < 0) → ((a2 < M 1 6 → ((a3 < 0 → (1 ≤ M 99 0) ∧ Q (.inr 0) (pm_set M 99 0 (M 99 0 - 1))) ∧ (¬ (a3 < 0) → ((a3 < M 1 6 → ((¬ M 1 6 = 2000 → (pm_R (2 * a1)) ∧ (pm_R (2 * a2)) ∧ (pm_R (2 * a3)) ∧ (0 ≤ M 1 6 ∧ M 1 6 < 2000) ∧ (pm_R (M 1 6 + 1)) ∧ Q (.inl (some (.inl (M 1 6)))) (pm_set (pm_set (pm_set (pm_set M 7 (M 1 6) (2 * a1)) 8 (M 1 6) (2 * a2)) 9 (M 1 6) (2 * a3)) 1 6 (M 1 6 + 1))) ∧ (¬ (¬ M 1 6 = 2000) → (1 ≤ M 99 0) ∧ Q (.inr 1) (pm_set M 99 0 (M 99 0 - 1))))) ∧ (¬ (a3 < M 1 6) → (1 ≤ M 99 0) ∧ Q (.inr 0) (pm_set M 99 0 (M 99 0 - 1))))))) ∧ (¬ (a2 < M 1 6) → (1 ≤ M 99 0) ∧ Q (.inr 0) (pm_set M 99 0 (M 99 0 - 1))))))) ∧ (¬ (a1 < M 1 6) → (1 ≤ M 99 0) ∧ Q (.inr 0) (pm_set M 99 0 (M 99 0 - 1))))))) :
    pm_X L (3, 0, [some (.inr (.inl 0)), some (.inl a1), some (.inl a2), some (.inl a3)], [], M) Q := by
  refine x_aload_n i_3_0 rfl rfl ?_
  refine x_iload_n i_3_1 rfl rfl ?_
  refine x_callv (as := [.inl a1]) (rest := []) i_3_2 k_3_63 rfl rfl rfl g_0 (Nat.le_of_ble_eq_true rfl) m_17 rfl ?_
  refine x_iload_n i_17_0 rfl rfl ?_
  refine x_if (C := a1 < 0) i_17_1 rfl Iff.rfl rfl ⟨fun c1 => ?_, fun c1 => ?_⟩
  · replace h := h.1 c1
    obtain ⟨q2, h⟩ := h
    refine x_throw i_17_15 t_17_101 q2 ?_
    refine x_bkt rfl ?_
    exact h
  · replace h := h.2 c1
    refine x_iload_n i_17_4 rfl rfl ?_
    refine x_aload_n i_17_5 rfl rfl ?_
    refine x_getr i_17_6 f_17_12 g_0 rfl rfl ?_
    refine x_geti (v := M 1 6) i_17_9 f_17_126 g_1 rfl (rfl) rfl ?_
    refine x_icmp (C := a1 < M 1 6) i_17_12 rfl Iff.rfl rfl ⟨fun c3 => ?_, fun c3 => ?_⟩
    · replace h := h.1 c3
      refine x_ret i_17_25 r_17 ?_
      refine x_bkv rfl ?_
      refine x_aload_n i_3_5 rfl rfl ?_
      refine x_iload_n i_3_6 rfl rfl ?_
      refine x_callv (as := [.inl a2]) (rest := []) i_3_7 k_3_63 rfl rfl rfl g_0 (Nat.le_of_ble_eq_true rfl) m_17 rfl ?_
      refine x_iload_n i_17_0 rfl rfl ?_
      refine x_if (C := a2 < 0) i_17_1 rfl Iff.rfl rfl ⟨fun c4 => ?_, fun c4 => ?_⟩
      · replace h := h.1 c4
        obtain ⟨q5, h⟩ := h
        refine x_throw i_17_15 t_17_101 q5 ?_
        refine x_bkt rfl ?_
        exact h
      · replace h := h.2 c4
        refine x_iload_n i_17_4 rfl rfl ?_
        refine x_aload_n i_17_5 rfl rfl ?_
        refine x_getr i_17_6 f_17_12 g_0 rfl rfl ?_
        refine x_geti (v := M 1 6) i_17_9 f_17_126 g_1 rfl (rfl) rfl ?_
        refine x_icmp (C := a2 < M 1 6) i_17_12 rfl Iff.rfl rfl ⟨fun c6 => ?_, fun c6 => ?_⟩
        · replace h := h.1 c6
          refine x_ret i_17_25 r_17 ?_
          refine x_bkv rfl ?_
          refine x_aload_n i_3_10 rfl rfl ?_
          refine x_iload_n i_3_11 rfl rfl ?_
          refine x_callv (as := [.inl a3]) (rest := []) i_3_12 k_3_63 rfl rfl rfl g_0 (Nat.le_of_ble_eq_true rfl) m_17 rfl ?_
          refine x_iload_n i_17_0 rfl rfl ?_
          refine x_if (C := a3 < 0) i_17_1 rfl Iff.rfl rfl ⟨fun c7 => ?_, fun c7 => ?_⟩
          · replace h := h.1 c7
            obtain ⟨q8, h⟩ := h
            refine x_throw i_17_15 t_17_101 q8 ?_
            refine x_bkt rfl ?_
            exact h
          · replace h := h.2 c7
            refine x_iload_n i_17_4 rfl rfl ?_
            refine x_aload_n i_17_5 rfl rfl ?_
            refine x_getr i_17_6 f_17_12 g_0 rfl rfl ?_
            refine x_geti (v := M 1 6) i_17_9 f_17_126 g_1 rfl (rfl) rfl ?_
            refine x_icmp (C := a3 < M 1 6) i_17_12 rfl Iff.rfl rfl ⟨fun c9 => ?_, fun c9 => ?_⟩
            · replace h := h.1 c9
              refine x_ret i_17_25 r_17 ?_
              refine x_bkv rfl ?_
              refine x_aload_n i_3_15 rfl rfl ?_
              refine x_callv (as := []) (rest := []) i_3_16 k_3_56 rfl rfl rfl g_0 (Nat.le_of_ble_eq_true rfl) m_18 rfl ?_
              refine x_aload_n i_18_0 rfl rfl ?_
              refine x_getr i_18_1 f_18_12 g_0 rfl rfl ?_
              refine x_geti (v := M 1 6) i_18_4 f_18_126 g_1 rfl (rfl) rfl ?_
              refine x_sipush i_18_7 (by decide) rfl ?_
              refine x_icmp (C := ¬ M 1 6 = 2000) i_18_10 rfl Iff.rfl rfl ⟨fun c10 => ?_, fun c10 => ?_⟩
              · replace h := h.1 c10
                refine x_ret i_18_23 r_18 ?_
                refine x_bkv rfl ?_
                refine x_aload_n i_3_19 rfl rfl ?_
                refine x_getr i_3_20 f_3_12 g_0 rfl rfl ?_
                refine x_iload_n i_3_23 rfl rfl ?_
                refine x_calls (as := [.inl a1]) (rest := [.inr (.inl 1)]) i_3_24 k_3_67 rfl rfl rfl (Nat.le_of_ble_eq_true rfl) m_14 rfl ?_
                refine x_iconst i_14_0 (by decide) rfl ?_
                refine x_iload_n i_14_1 rfl rfl ?_
                obtain ⟨q11, h⟩ := h
                refine x_imul i_14_2 rfl q11 ?_
                refine x_ireti i_14_3 r_14 ?_
                refine x_bki rfl ?_
                refine x_iload_n i_3_27 rfl rfl ?_
                refine x_calls (as := [.inl a2]) (rest := [.inl (2 * a1), .inr (.inl 1)]) i_3_28 k_3_67 rfl rfl rfl (Nat.le_of_ble_eq_true rfl) m_14 rfl ?_
                refine x_iconst i_14_0 (by decide) rfl ?_
                refine x_iload_n i_14_1 rfl rfl ?_
                obtain ⟨q12, h⟩ := h
                refine x_imul i_14_2 rfl q12 ?_
                refine x_ireti i_14_3 r_14 ?_
                refine x_bki rfl ?_
                refine x_iload_n i_3_31 rfl rfl ?_
                refine x_calls (as := [.inl a3]) (rest := [.inl (2 * a2), .inl (2 * a1), .inr (.inl 1)]) i_3_32 k_3_67 rfl rfl rfl (Nat.le_of_ble_eq_true rfl) m_14 rfl ?_
                refine x_iconst i_14_0 (by decide) rfl ?_
                refine x_iload_n i_14_1 rfl rfl ?_
                obtain ⟨q13, h⟩ := h
                refine x_imul i_14_2 rfl q13 ?_
                refine x_ireti i_14_3 r_14 ?_
                refine x_bki rfl ?_
                refine x_callv (as := [.inl (2 * a1), .inl (2 * a2), .inl (2 * a3)]) (rest := []) i_3_35 k_3_71 rfl rfl rfl g_1 (Nat.le_of_ble_eq_true rfl) m_25 rfl ?_
                refine x_aload_n i_25_0 rfl rfl ?_
                refine x_geti (v := M 1 6) i_25_1 f_25_31 g_1 rfl (rfl) rfl ?_
                refine x_istore i_25_4 (Nat.le_of_ble_eq_true rfl) rfl rfl ?_
                refine x_aload_n i_25_6 rfl rfl ?_
                refine x_getr i_25_7 f_25_9 g_1 rfl rfl ?_
                refine x_iload i_25_10 rfl rfl ?_
                refine x_iload_n i_25_12 rfl rfl ?_
                obtain ⟨q14, h⟩ := h
                refine x_iastore i_25_13 g_7 rfl q14 ?_
                refine x_aload_n i_25_14 rfl rfl ?_
                refine x_getr i_25_15 f_25_15 g_1 rfl rfl ?_
                refine x_iload i_25_18 rfl rfl ?_
                refine x_iload_n i_25_20 rfl rfl ?_
                refine x_iastore i_25_21 g_8 rfl q14 ?_
                refine x_aload_n i_25_22 rfl rfl ?_
                refine x_getr i_25_23 f_25_18 g_1 rfl rfl ?_
                refine x_iload i_25_26 rfl rfl ?_
                refine x_iload_n i_25_28 rfl rfl ?_
                refine x_iastore i_25_29 g_9 rfl q14 ?_
                refine x_aload_n i_25_30 rfl rfl ?_
                refine x_dup i_25_31 rfl rfl ?_
                refine x_geti (v := M 1 6) i_25_32 f_25_31 g_1 rfl (pm_get_c (by decide) (pm_get_c (by decide) (pm_get_c (by decide) rfl))) rfl ?_
                refine x_iconst i_25_35 (by decide) rfl ?_
                obtain ⟨q15, h⟩ := h
                refine x_iadd i_25_36 rfl q15 ?_
                refine x_puti i_25_37 f_25_31 g_1 rfl rfl ?_
                refine x_iload i_25_40 rfl rfl ?_
                refine x_ireti i_25_42 r_25 ?_
                refine x_bki rfl ?_
                exact x_ireti i_3_38 r_3 h
              · replace h := h.2 c10
                obtain ⟨q16, h⟩ := h
                refine x_throw i_18_13 t_18_49 q16 ?_
                refine x_bkt rfl ?_
                exact h
            · replace h := h.2 c9
              obtain ⟨q17, h⟩ := h
              refine x_throw i_17_15 t_17_101 q17 ?_
              refine x_bkt rfl ?_
              exact h
        · replace h := h.2 c6
          obtain ⟨q18, h⟩ := h
          refine x_throw i_17_15 t_17_101 q18 ?_
          refine x_bkt rfl ?_
          exact h
    · replace h := h.2 c3
      obtain ⟨q19, h⟩ := h
      refine x_throw i_17_15 t_17_101 q19 ?_
      refine x_bkt rfl ?_
      exact h
/-! GateBench.want at 0 -/
theorem s_4_0 {L : Nat} {M : pm_M} {Q : pm_P} {a1 : Int}
    (h : ((a1 < 0 → (1 ≤ M 99 0) ∧ Q (.inr 0) (pm_set M 99 0 (M 99 0 - 1))) ∧ (¬ (a1 < 0) → ((a1 < M 1 6 → ((¬ M 0 5 = 20 → (0 ≤ M 0 5 ∧ M 0 5 < 20) ∧ (pm_R (M 0 5 + 1)) ∧ Q (.inl (some (.inl (M 0 5 + 1)))) (pm_set (pm_set M 6 (M 0 5) a1) 0 5 (M 0 5 + 1))) ∧ (¬ (¬ M 0 5 = 20) → (1 ≤ M 99 0) ∧ Q (.inr 1) (pm_set M 99 0 (M 99 0 - 1))))) ∧ (¬ (a1 < M 1 6) → (1 ≤ M 99 0) ∧ Q (.inr 0) (pm_set M 99 0 (M 99 0 - 1))))))) :
    pm_X L (4, 0, [some (.inr (.inl 0)), some (.inl a1)], [], M) Q := by
  refine x_aload_n i_4_0 rfl rfl ?_
  refine x_iload_n i_4_1 rfl rfl ?_
  refine x_callv (as := [.inl a1]) (rest := []) i_4_2 k_4_63 rfl rfl rfl g_0 (Nat.le_of_ble_eq_true rfl) m_17 rfl ?_
  refine x_iload_n i_17_0 rfl rfl ?_
  refine x_if (C := a1 < 0) i_17_1 rfl Iff.rfl rfl ⟨fun c1 => ?_, fun c1 => ?_⟩
  · replace h := h.1 c1
    obtain ⟨q2, h⟩ := h
    refine x_throw i_17_15 t_17_101 q2 ?_
    refine x_bkt rfl ?_
    exact h
  · replace h := h.2 c1
    refine x_iload_n i_17_4 rfl rfl ?_
    refine x_aload_n i_17_5 rfl rfl ?_
    refine x_getr i_17_6 f_17_12 g_0 rfl rfl ?_
    refine x_geti (v := M 1 6) i_17_9 f_17_126 g_1 rfl (rfl) rfl ?_
    refine x_icmp (C := a1 < M 1 6) i_17_12 rfl Iff.rfl rfl ⟨fun c3 => ?_, fun c3 => ?_⟩
    · replace h := h.1 c3
      refine x_ret i_17_25 r_17 ?_
      refine x_bkv rfl ?_
      refine x_aload_n i_4_5 rfl rfl ?_
      refine x_geti (v := M 0 5) i_4_6 f_4_83 g_0 rfl (rfl) rfl ?_
      refine x_bipush i_4_9 (by decide) rfl ?_
      refine x_icmp (C := ¬ M 0 5 = 20) i_4_11 rfl Iff.rfl rfl ⟨fun c4 => ?_, fun c4 => ?_⟩
      · replace h := h.1 c4
        refine x_aload_n i_4_24 rfl rfl ?_
        refine x_getr i_4_25 f_4_41 g_0 rfl rfl ?_
        refine x_aload_n i_4_28 rfl rfl ?_
        refine x_geti (v := M 0 5) i_4_29 f_4_83 g_0 rfl (rfl) rfl ?_
        refine x_iload_n i_4_32 rfl rfl ?_
        obtain ⟨q5, h⟩ := h
        refine x_iastore i_4_33 g_6 rfl q5 ?_
        refine x_aload_n i_4_34 rfl rfl ?_
        refine x_dup i_4_35 rfl rfl ?_
        refine x_geti (v := M 0 5) i_4_36 f_4_83 g_0 rfl (pm_get_c (by decide) rfl) rfl ?_
        refine x_iconst i_4_39 (by decide) rfl ?_
        obtain ⟨q6, h⟩ := h
        refine x_iadd i_4_40 rfl q6 ?_
        refine x_puti i_4_41 f_4_83 g_0 rfl rfl ?_
        refine x_aload_n i_4_44 rfl rfl ?_
        refine x_geti (v := M 0 5 + 1) i_4_45 f_4_83 g_0 rfl (pm_get_e) rfl ?_
        exact x_ireti i_4_48 r_4 h
      · replace h := h.2 c4
        obtain ⟨q7, h⟩ := h
        refine x_throw i_4_14 t_4_49 q7 ?_
        exact h
    · replace h := h.2 c3
      obtain ⟨q8, h⟩ := h
      refine x_throw i_17_15 t_17_101 q8 ?_
      refine x_bkt rfl ?_
      exact h
/-! GateBench.clear at 0 -/
theorem s_5_0 {L : Nat} {M : pm_M} {Q : pm_P}
    (h : Q (.inl (some (.inl (M 0 5)))) (pm_set M 0 5 0)) :
    pm_X L (5, 0, [some (.inr (.inl 0)), none], [], M) Q := by
  refine x_aload_n i_5_0 rfl rfl ?_
  refine x_geti (v := M 0 5) i_5_1 f_5_83 g_0 rfl (rfl) rfl ?_
  refine x_istore_n i_5_4 (Nat.le_of_ble_eq_true rfl) rfl rfl ?_
  refine x_aload_n i_5_5 rfl rfl ?_
  refine x_iconst i_5_6 (by decide) rfl ?_
  refine x_puti i_5_7 f_5_83 g_0 rfl rfl ?_
  refine x_iload_n i_5_10 rfl rfl ?_
  exact x_ireti i_5_11 r_5 h
/-! GateBench.can at 0 -/
theorem s_6_0 {L : Nat} {M : pm_M} {Q : pm_P}
    (h : pm_X L (19, 0, [some (.inr (.inl 0)), some (.inl (-1)), none], [], M) (pm_back (pm_X L) 6 2 [some (.inr (.inl 0)), none] [] Q)) :
    pm_X L (6, 0, [some (.inr (.inl 0)), none], [], M) Q := by
  refine x_aload_n i_6_0 rfl rfl ?_
  refine x_iconst i_6_1 (by decide) rfl ?_
  refine x_callv (as := [.inl (-1)]) (rest := []) i_6_2 k_6_88 rfl rfl rfl g_0 (Nat.le_of_ble_eq_true rfl) m_19 rfl h
/-! GateBench.can at 5 -/
theorem s_6_5 {L : Nat} {M : pm_M} {Q : pm_P}
    (h : pm_X L (21, 0, [some (.inr (.inl 0)), none], [], M) (pm_back (pm_X L) 6 6 [some (.inr (.inl 0)), none] [] Q)) :
    pm_X L (6, 5, [some (.inr (.inl 0)), none], [], M) Q := by
  refine x_aload_n i_6_5 rfl rfl ?_
  refine x_callv (as := []) (rest := []) i_6_6 k_6_91 rfl rfl rfl g_0 (Nat.le_of_ble_eq_true rfl) m_21 rfl h
/-! GateBench.can at 9 -/
theorem s_6_9 {L : Nat} {M : pm_M} {Q : pm_P} {r : Int}
    (h : ((r = 0 → pm_X L (6, 18, [some (.inr (.inl 0)), some (.inl r)], [], M) Q) ∧ (¬ (r = 0) → pm_X L (22, 0, [some (.inr (.inl 0)), none, none], [], M) (pm_back (pm_X L) 6 15 [some (.inr (.inl 0)), some (.inl r)] [] Q)))) :
    pm_X L (6, 9, [some (.inr (.inl 0)), none], [.inl r], M) Q := by
  refine x_istore_n i_6_9 (Nat.le_of_ble_eq_true rfl) rfl rfl ?_
  refine x_iload_n i_6_10 rfl rfl ?_
  refine x_if (C := r = 0) i_6_11 rfl Iff.rfl rfl ⟨fun c1 => ?_, fun c1 => ?_⟩
  · replace h := h.1 c1
    exact h
  · replace h := h.2 c1
    refine x_aload_n i_6_14 rfl rfl ?_
    refine x_callv (as := []) (rest := []) i_6_15 k_6_95 rfl rfl rfl g_0 (Nat.le_of_ble_eq_true rfl) m_22 rfl h
/-! GateBench.can at 18 -/
theorem s_6_18 {L : Nat} {M : pm_M} {Q : pm_P} {a1 : Int}
    (h : (pm_bit a1) ∧ Q (.inl (some (.inl a1))) M) :
    pm_X L (6, 18, [some (.inr (.inl 0)), some (.inl a1)], [], M) Q := by
  refine x_iload_n i_6_18 rfl rfl ?_
  obtain ⟨q1, h⟩ := h
  exact x_iretz i_6_19 r_6 q1 h
/-! GateBench.shorten at 0 -/
theorem s_7_0 {L : Nat} {M : pm_M} {Q : pm_P}
    (h : pm_X L (19, 0, [some (.inr (.inl 0)), some (.inl (-1)), none], [], M) (pm_back (pm_X L) 7 2 [some (.inr (.inl 0)), none, none] [] Q)) :
    pm_X L (7, 0, [some (.inr (.inl 0)), none, none], [], M) Q := by
  refine x_aload_n i_7_0 rfl rfl ?_
  refine x_iconst i_7_1 (by decide) rfl ?_
  refine x_callv (as := [.inl (-1)]) (rest := []) i_7_2 k_7_88 rfl rfl rfl g_0 (Nat.le_of_ble_eq_true rfl) m_19 rfl h
/-! GateBench.shorten at 5 -/
theorem s_7_5 {L : Nat} {M : pm_M} {Q : pm_P}
    (h : pm_X L (21, 0, [some (.inr (.inl 0)), none], [], M) (pm_back (pm_X L) 7 6 [some (.inr (.inl 0)), none, none] [] Q)) :
    pm_X L (7, 5, [some (.inr (.inl 0)), none, none], [], M) Q := by
  refine x_aload_n i_7_5 rfl rfl ?_
  refine x_callv (as := []) (rest := []) i_7_6 k_7_91 rfl rfl rfl g_0 (Nat.le_of_ble_eq_true rfl) m_21 rfl h
/-! GateBench.shorten at 9 -/
theorem s_7_9 {L : Nat} {M : pm_M} {Q : pm_P} {r : Int}
    (h : ((r = 0 → pm_X L (7, 21, [some (.inr (.inl 0)), some (.inl 0), some (.inl (M 0 5))], [], M) Q) ∧ (¬ (r = 0) → Q (.inl (some (.inl (-1)))) M))) :
    pm_X L (7, 9, [some (.inr (.inl 0)), none, none], [.inl r], M) Q := by
  refine x_if (C := r = 0) i_7_9 rfl Iff.rfl rfl ⟨fun c1 => ?_, fun c1 => ?_⟩
  · replace h := h.1 c1
    refine x_iconst i_7_14 (by decide) rfl ?_
    refine x_istore_n i_7_15 (Nat.le_of_ble_eq_true rfl) rfl rfl ?_
    refine x_aload_n i_7_16 rfl rfl ?_
    refine x_geti (v := M 0 5) i_7_17 f_7_83 g_0 rfl (rfl) rfl ?_
    refine x_istore_n i_7_20 (Nat.le_of_ble_eq_true rfl) rfl rfl ?_
    exact h
  · replace h := h.2 c1
    refine x_iconst i_7_12 (by decide) rfl ?_
    exact x_ireti i_7_13 r_7 h
/-! GateBench.shorten at 21 -/
theorem s_7_21 {L : Nat} {M : pm_M} {Q : pm_P} {a1 a2 : Int}
    (h : ((a2 ≤ 0 → Q (.inl (some (.inl (M 0 5)))) M) ∧ (¬ (a2 ≤ 0) → pm_X L (19, 0, [some (.inr (.inl 0)), some (.inl a1), none], [], M) (pm_back (pm_X L) 7 27 [some (.inr (.inl 0)), some (.inl a1), some (.inl a2)] [] Q)))) :
    pm_X L (7, 21, [some (.inr (.inl 0)), some (.inl a1), some (.inl a2)], [], M) Q := by
  refine x_iload_n i_7_21 rfl rfl ?_
  refine x_if (C := a2 ≤ 0) i_7_22 rfl Iff.rfl rfl ⟨fun c1 => ?_, fun c1 => ?_⟩
  · replace h := h.1 c1
    refine x_aload_n i_7_54 rfl rfl ?_
    refine x_geti (v := M 0 5) i_7_55 f_7_83 g_0 rfl (rfl) rfl ?_
    exact x_ireti i_7_58 r_7 h
  · replace h := h.2 c1
    refine x_aload_n i_7_25 rfl rfl ?_
    refine x_iload_n i_7_26 rfl rfl ?_
    refine x_callv (as := [.inl a1]) (rest := []) i_7_27 k_7_88 rfl rfl rfl g_0 (Nat.le_of_ble_eq_true rfl) m_19 rfl h
/-! GateBench.shorten at 30 -/
theorem s_7_30 {L : Nat} {M : pm_M} {Q : pm_P} {a1 a2 : Int}
    (h : pm_X L (21, 0, [some (.inr (.inl 0)), none], [], M) (pm_back (pm_X L) 7 31 [some (.inr (.inl 0)), some (.inl a1), some (.inl a2)] [] Q)) :
    pm_X L (7, 30, [some (.inr (.inl 0)), some (.inl a1), some (.inl a2)], [], M) Q := by
  refine x_aload_n i_7_30 rfl rfl ?_
  refine x_callv (as := []) (rest := []) i_7_31 k_7_91 rfl rfl rfl g_0 (Nat.le_of_ble_eq_true rfl) m_21 rfl h
/-! GateBench.shorten at 34 -/
theorem s_7_34 {L : Nat} {M : pm_M} {Q : pm_P} {a1 a2 r : Int}
    (h : ((r = 0 → pm_X L (23, 0, [some (.inr (.inl 0)), some (.inl a1), none], [], M) (pm_back (pm_X L) 7 45 [some (.inr (.inl 0)), some (.inl a1), some (.inl a2)] [] Q)) ∧ (¬ (r = 0) → (pm_R (a1 + 1)) ∧ pm_X L (7, 48, [some (.inr (.inl 0)), some (.inl (a1 + 1)), some (.inl a2)], [], M) Q))) :
    pm_X L (7, 34, [some (.inr (.inl 0)), some (.inl a1), some (.inl a2)], [.inl r], M) Q := by
  refine x_if (C := r = 0) i_7_34 rfl Iff.rfl rfl ⟨fun c1 => ?_, fun c1 => ?_⟩
  · replace h := h.1 c1
    refine x_aload_n i_7_43 rfl rfl ?_
    refine x_iload_n i_7_44 rfl rfl ?_
    refine x_callv (as := [.inl a1]) (rest := []) i_7_45 k_7_98 rfl rfl rfl g_0 (Nat.le_of_ble_eq_true rfl) m_23 rfl h
  · replace h := h.2 c1
    obtain ⟨q2, h⟩ := h
    refine x_iinc i_7_37 rfl (by decide) rfl rfl q2 ?_
    refine x_goto i_7_40 rfl ?_
    exact h
/-! GateBench.shorten at 48 -/
theorem s_7_48 {L : Nat} {M : pm_M} {Q : pm_P} {a1 a2 : Int}
    (h : (pm_R (a2 + (-1))) ∧ pm_X L (7, 21, [some (.inr (.inl 0)), some (.inl a1), some (.inl (a2 + (-1)))], [], M) Q) :
    pm_X L (7, 48, [some (.inr (.inl 0)), some (.inl a1), some (.inl a2)], [], M) Q := by
  obtain ⟨q1, h⟩ := h
  refine x_iinc i_7_48 rfl (by decide) rfl rfl q1 ?_
  refine x_goto i_7_51 rfl ?_
  exact h
/-! GateBench.wanted at 0 -/
theorem s_8_0 {L : Nat} {M : pm_M} {Q : pm_P} {a1 : Int}
    (h : ((a1 < 0 → (1 ≤ M 99 0) ∧ Q (.inr 0) (pm_set M 99 0 (M 99 0 - 1))) ∧ (¬ (a1 < 0) → ((a1 < M 0 5 → (0 ≤ a1 ∧ a1 < 20) ∧ Q (.inl (some (.inl (M 6 a1)))) M) ∧ (¬ (a1 < M 0 5) → (1 ≤ M 99 0) ∧ Q (.inr 0) (pm_set M 99 0 (M 99 0 - 1))))))) :
    pm_X L (8, 0, [some (.inr (.inl 0)), some (.inl a1)], [], M) Q := by
  refine x_iload_n i_8_0 rfl rfl ?_
  refine x_if (C := a1 < 0) i_8_1 rfl Iff.rfl rfl ⟨fun c1 => ?_, fun c1 => ?_⟩
  · replace h := h.1 c1
    obtain ⟨q2, h⟩ := h
    refine x_throw i_8_12 t_8_101 q2 ?_
    exact h
  · replace h := h.2 c1
    refine x_iload_n i_8_4 rfl rfl ?_
    refine x_aload_n i_8_5 rfl rfl ?_
    refine x_geti (v := M 0 5) i_8_6 f_8_83 g_0 rfl (rfl) rfl ?_
    refine x_icmp (C := a1 < M 0 5) i_8_9 rfl Iff.rfl rfl ⟨fun c3 => ?_, fun c3 => ?_⟩
    · replace h := h.1 c3
      refine x_aload_n i_8_22 rfl rfl ?_
      refine x_getr i_8_23 f_8_41 g_0 rfl rfl ?_
      refine x_iload_n i_8_26 rfl rfl ?_
      obtain ⟨q4, h⟩ := h
      refine x_iaload (v := M 6 a1) i_8_27 g_6 (rfl) rfl q4 ?_
      exact x_ireti i_8_28 r_8 h
    · replace h := h.2 c3
      obtain ⟨q5, h⟩ := h
      refine x_throw i_8_12 t_8_101 q5 ?_
      exact h
/-! GateBench.same at 0 -/
theorem s_9_0 {L : Nat} {M : pm_M} {Q : pm_P} {a1 a2 : Int}
    (h : ((a1 < 0 → (1 ≤ M 99 0) ∧ Q (.inr 0) (pm_set M 99 0 (M 99 0 - 1))) ∧ (¬ (a1 < 0) → ((a1 < M 1 6 → ((a2 < 0 → (1 ≤ M 99 0) ∧ Q (.inr 0) (pm_set M 99 0 (M 99 0 - 1))) ∧ (¬ (a2 < 0) → ((a2 < M 1 6 → pm_X L (20, 0, [some (.inr (.inl 0)), some (.inl a1), some (.inl a2)], [], M) (pm_back (pm_X L) 9 13 [some (.inr (.inl 0)), some (.inl a1), some (.inl a2), none] [] Q)) ∧ (¬ (a2 < M 1 6) → (1 ≤ M 99 0) ∧ Q (.inr 0) (pm_set M 99 0 (M 99 0 - 1))))))) ∧ (¬ (a1 < M 1 6) → (1 ≤ M 99 0) ∧ Q (.inr 0) (pm_set M 99 0 (M 99 0 - 1))))))) :
    pm_X L (9, 0, [some (.inr (.inl 0)), some (.inl a1), some (.inl a2), none], [], M) Q := by
  refine x_aload_n i_9_0 rfl rfl ?_
  refine x_iload_n i_9_1 rfl rfl ?_
  refine x_callv (as := [.inl a1]) (rest := []) i_9_2 k_9_63 rfl rfl rfl g_0 (Nat.le_of_ble_eq_true rfl) m_17 rfl ?_
  refine x_iload_n i_17_0 rfl rfl ?_
  refine x_if (C := a1 < 0) i_17_1 rfl Iff.rfl rfl ⟨fun c1 => ?_, fun c1 => ?_⟩
  · replace h := h.1 c1
    obtain ⟨q2, h⟩ := h
    refine x_throw i_17_15 t_17_101 q2 ?_
    refine x_bkt rfl ?_
    exact h
  · replace h := h.2 c1
    refine x_iload_n i_17_4 rfl rfl ?_
    refine x_aload_n i_17_5 rfl rfl ?_
    refine x_getr i_17_6 f_17_12 g_0 rfl rfl ?_
    refine x_geti (v := M 1 6) i_17_9 f_17_126 g_1 rfl (rfl) rfl ?_
    refine x_icmp (C := a1 < M 1 6) i_17_12 rfl Iff.rfl rfl ⟨fun c3 => ?_, fun c3 => ?_⟩
    · replace h := h.1 c3
      refine x_ret i_17_25 r_17 ?_
      refine x_bkv rfl ?_
      refine x_aload_n i_9_5 rfl rfl ?_
      refine x_iload_n i_9_6 rfl rfl ?_
      refine x_callv (as := [.inl a2]) (rest := []) i_9_7 k_9_63 rfl rfl rfl g_0 (Nat.le_of_ble_eq_true rfl) m_17 rfl ?_
      refine x_iload_n i_17_0 rfl rfl ?_
      refine x_if (C := a2 < 0) i_17_1 rfl Iff.rfl rfl ⟨fun c4 => ?_, fun c4 => ?_⟩
      · replace h := h.1 c4
        obtain ⟨q5, h⟩ := h
        refine x_throw i_17_15 t_17_101 q5 ?_
        refine x_bkt rfl ?_
        exact h
      · replace h := h.2 c4
        refine x_iload_n i_17_4 rfl rfl ?_
        refine x_aload_n i_17_5 rfl rfl ?_
        refine x_getr i_17_6 f_17_12 g_0 rfl rfl ?_
        refine x_geti (v := M 1 6) i_17_9 f_17_126 g_1 rfl (rfl) rfl ?_
        refine x_icmp (C := a2 < M 1 6) i_17_12 rfl Iff.rfl rfl ⟨fun c6 => ?_, fun c6 => ?_⟩
        · replace h := h.1 c6
          refine x_ret i_17_25 r_17 ?_
          refine x_bkv rfl ?_
          refine x_aload_n i_9_10 rfl rfl ?_
          refine x_iload_n i_9_11 rfl rfl ?_
          refine x_iload_n i_9_12 rfl rfl ?_
          refine x_callv (as := [.inl a1, .inl a2]) (rest := []) i_9_13 k_9_106 rfl rfl rfl g_0 (Nat.le_of_ble_eq_true rfl) m_20 rfl h
        · replace h := h.2 c6
          obtain ⟨q7, h⟩ := h
          refine x_throw i_17_15 t_17_101 q7 ?_
          refine x_bkt rfl ?_
          exact h
    · replace h := h.2 c3
      obtain ⟨q8, h⟩ := h
      refine x_throw i_17_15 t_17_101 q8 ?_
      refine x_bkt rfl ?_
      exact h
/-! GateBench.same at 16 -/
theorem s_9_16 {L : Nat} {M : pm_M} {Q : pm_P} {a1 a2 : Int}
    (h : pm_X L (21, 0, [some (.inr (.inl 0)), none], [], M) (pm_back (pm_X L) 9 17 [some (.inr (.inl 0)), some (.inl a1), some (.inl a2), none] [] Q)) :
    pm_X L (9, 16, [some (.inr (.inl 0)), some (.inl a1), some (.inl a2), none], [], M) Q := by
  refine x_aload_n i_9_16 rfl rfl ?_
  refine x_callv (as := []) (rest := []) i_9_17 k_9_91 rfl rfl rfl g_0 (Nat.le_of_ble_eq_true rfl) m_21 rfl h
/-! GateBench.same at 20 -/
theorem s_9_20 {L : Nat} {M : pm_M} {Q : pm_P} {a1 a2 r : Int}
    (h : ((r = 0 → pm_X L (9, 29, [some (.inr (.inl 0)), some (.inl a1), some (.inl a2), some (.inl r)], [], M) Q) ∧ (¬ (r = 0) → pm_X L (22, 0, [some (.inr (.inl 0)), none, none], [], M) (pm_back (pm_X L) 9 26 [some (.inr (.inl 0)), some (.inl a1), some (.inl a2), some (.inl r)] [] Q)))) :
    pm_X L (9, 20, [some (.inr (.inl 0)), some (.inl a1), some (.inl a2), none], [.inl r], M) Q := by
  refine x_istore_n i_9_20 (Nat.le_of_ble_eq_true rfl) rfl rfl ?_
  refine x_iload_n i_9_21 rfl rfl ?_
  refine x_if (C := r = 0) i_9_22 rfl Iff.rfl rfl ⟨fun c1 => ?_, fun c1 => ?_⟩
  · replace h := h.1 c1
    exact h
  · replace h := h.2 c1
    refine x_aload_n i_9_25 rfl rfl ?_
    refine x_callv (as := []) (rest := []) i_9_26 k_9_95 rfl rfl rfl g_0 (Nat.le_of_ble_eq_true rfl) m_22 rfl h
/-! GateBench.same at 29 -/
theorem s_9_29 {L : Nat} {M : pm_M} {Q : pm_P} {a1 a2 a3 : Int}
    (h : ((¬ a3 = 0 → Q (.inl (some (.inl 0))) M) ∧ (¬ (¬ a3 = 0) → Q (.inl (some (.inl 1))) M))) :
    pm_X L (9, 29, [some (.inr (.inl 0)), some (.inl a1), some (.inl a2), some (.inl a3)], [], M) Q := by
  refine x_iload_n i_9_29 rfl rfl ?_
  refine x_if (C := ¬ a3 = 0) i_9_30 rfl Iff.rfl rfl ⟨fun c1 => ?_, fun c1 => ?_⟩
  · replace h := h.1 c1
    refine x_iconst i_9_37 (by decide) rfl ?_
    exact x_iretz i_9_38 r_9 (by unfold pm_bit; decide) h
  · replace h := h.2 c1
    refine x_iconst i_9_33 (by decide) rfl ?_
    refine x_goto i_9_34 rfl ?_
    exact x_iretz i_9_38 r_9 (by unfold pm_bit; decide) h
/-! GateBench.put at 0 -/
theorem s_10_0 {L : Nat} {M : pm_M} {Q : pm_P} {a1 a2 : Int}
    (h : ((a1 < 0 → (1 ≤ M 99 0) ∧ Q (.inr 0) (pm_set M 99 0 (M 99 0 - 1))) ∧ (¬ (a1 < 0) → ((a1 < M 1 7 → (0 ≤ a1 ∧ a1 < 12) ∧ (0 ≤ M 12 a1 ∧ M 12 a1 < 2000) ∧ ((0 ≤ M 12 a1 ∧ M 12 a1 < 2000) ∧ pm_bit a2) ∧ (pm_bit (M 10 (M 12 a1))) ∧ Q (.inl (some (.inl (M 10 (M 12 a1))))) (pm_set M 10 (M 12 a1) a2)) ∧ (¬ (a1 < M 1 7) → (1 ≤ M 99 0) ∧ Q (.inr 0) (pm_set M 99 0 (M 99 0 - 1))))))) :
    pm_X L (10, 0, [some (.inr (.inl 0)), some (.inl a1), some (.inl a2), none, none], [], M) Q := by
  refine x_iload_n i_10_0 rfl rfl ?_
  refine x_if (C := a1 < 0) i_10_1 rfl Iff.rfl rfl ⟨fun c1 => ?_, fun c1 => ?_⟩
  · replace h := h.1 c1
    obtain ⟨q2, h⟩ := h
    refine x_throw i_10_15 t_10_101 q2 ?_
    exact h
  · replace h := h.2 c1
    refine x_iload_n i_10_4 rfl rfl ?_
    refine x_aload_n i_10_5 rfl rfl ?_
    refine x_getr i_10_6 f_10_12 g_0 rfl rfl ?_
    refine x_geti (v := M 1 7) i_10_9 f_10_45 g_1 rfl (rfl) rfl ?_
    refine x_icmp (C := a1 < M 1 7) i_10_12 rfl Iff.rfl rfl ⟨fun c3 => ?_, fun c3 => ?_⟩
    · replace h := h.1 c3
      refine x_aload_n i_10_25 rfl rfl ?_
      refine x_getr i_10_26 f_10_12 g_0 rfl rfl ?_
      refine x_getr i_10_29 f_10_112 g_1 rfl rfl ?_
      refine x_iload_n i_10_32 rfl rfl ?_
      obtain ⟨q4, h⟩ := h
      refine x_iaload (v := M 12 a1) i_10_33 g_12 (rfl) rfl q4 ?_
      refine x_istore_n i_10_34 (Nat.le_of_ble_eq_true rfl) rfl rfl ?_
      refine x_aload_n i_10_35 rfl rfl ?_
      refine x_getr i_10_36 f_10_12 g_0 rfl rfl ?_
      refine x_getr i_10_39 f_10_115 g_1 rfl rfl ?_
      refine x_iload_n i_10_42 rfl rfl ?_
      obtain ⟨q5, h⟩ := h
      refine x_baload (v := M 10 (M 12 a1)) i_10_43 g_10 (rfl) rfl q5 ?_
      refine x_istore i_10_44 (Nat.le_of_ble_eq_true rfl) rfl rfl ?_
      refine x_aload_n i_10_46 rfl rfl ?_
      refine x_getr i_10_47 f_10_12 g_0 rfl rfl ?_
      refine x_getr i_10_50 f_10_115 g_1 rfl rfl ?_
      refine x_iload_n i_10_53 rfl rfl ?_
      refine x_iload_n i_10_54 rfl rfl ?_
      obtain ⟨q6, h⟩ := h
      refine x_bastore i_10_55 g_10 rfl q6 ?_
      refine x_iload i_10_56 rfl rfl ?_
      obtain ⟨q7, h⟩ := h
      exact x_iretz i_10_58 r_10 q7 h
    · replace h := h.2 c3
      obtain ⟨q8, h⟩ := h
      refine x_throw i_10_15 t_10_101 q8 ?_
      exact h
/-! GateBench.value at 0 -/
theorem s_11_0 {L : Nat} {M : pm_M} {Q : pm_P} {a1 : Int}
    (h : ((a1 < 0 → (1 ≤ M 99 0) ∧ Q (.inr 0) (pm_set M 99 0 (M 99 0 - 1))) ∧ (¬ (a1 < 0) → ((a1 < M 1 6 → pm_X L (26, 0, [some (.inr (.inl 1)), some (.inl a1), none], [], M) (pm_back (pm_X L) 11 10 [some (.inr (.inl 0)), some (.inl a1)] [] Q)) ∧ (¬ (a1 < M 1 6) → (1 ≤ M 99 0) ∧ Q (.inr 0) (pm_set M 99 0 (M 99 0 - 1))))))) :
    pm_X L (11, 0, [some (.inr (.inl 0)), some (.inl a1)], [], M) Q := by
  refine x_aload_n i_11_0 rfl rfl ?_
  refine x_iload_n i_11_1 rfl rfl ?_
  refine x_callv (as := [.inl a1]) (rest := []) i_11_2 k_11_63 rfl rfl rfl g_0 (Nat.le_of_ble_eq_true rfl) m_17 rfl ?_
  refine x_iload_n i_17_0 rfl rfl ?_
  refine x_if (C := a1 < 0) i_17_1 rfl Iff.rfl rfl ⟨fun c1 => ?_, fun c1 => ?_⟩
  · replace h := h.1 c1
    obtain ⟨q2, h⟩ := h
    refine x_throw i_17_15 t_17_101 q2 ?_
    refine x_bkt rfl ?_
    exact h
  · replace h := h.2 c1
    refine x_iload_n i_17_4 rfl rfl ?_
    refine x_aload_n i_17_5 rfl rfl ?_
    refine x_getr i_17_6 f_17_12 g_0 rfl rfl ?_
    refine x_geti (v := M 1 6) i_17_9 f_17_126 g_1 rfl (rfl) rfl ?_
    refine x_icmp (C := a1 < M 1 6) i_17_12 rfl Iff.rfl rfl ⟨fun c3 => ?_, fun c3 => ?_⟩
    · replace h := h.1 c3
      refine x_ret i_17_25 r_17 ?_
      refine x_bkv rfl ?_
      refine x_aload_n i_11_5 rfl rfl ?_
      refine x_getr i_11_6 f_11_12 g_0 rfl rfl ?_
      refine x_iload_n i_11_9 rfl rfl ?_
      refine x_callv (as := [.inl a1]) (rest := []) i_11_10 k_11_119 rfl rfl rfl g_1 (Nat.le_of_ble_eq_true rfl) m_26 rfl h
    · replace h := h.2 c3
      obtain ⟨q4, h⟩ := h
      refine x_throw i_17_15 t_17_101 q4 ?_
      refine x_bkt rfl ?_
      exact h
/-! GateBench.value at 13 -/
theorem s_11_13 {L : Nat} {M : pm_M} {Q : pm_P} {a1 r : Int}
    (h : (pm_bit r) ∧ Q (.inl (some (.inl r))) M) :
    pm_X L (11, 13, [some (.inr (.inl 0)), some (.inl a1)], [.inl r], M) Q := by
  obtain ⟨q1, h⟩ := h
  exact x_iretz i_11_13 r_11 q1 h
/-! GateBench.doubts at 0 -/
theorem s_12_0 {L : Nat} {M : pm_M} {Q : pm_P}
    (h : Q (.inl (some (.inl (M 0 6)))) M) :
    pm_X L (12, 0, [some (.inr (.inl 0))], [], M) Q := by
  refine x_aload_n i_12_0 rfl rfl ?_
  refine x_geti (v := M 0 6) i_12_1 f_12_123 g_0 rfl (rfl) rfl ?_
  exact x_ireti i_12_4 r_12 h
/-! GateBench.count at 0 -/
theorem s_13_0 {L : Nat} {M : pm_M} {Q : pm_P} {a1 : Int}
    (h : ((a1 = 0 → Q (.inl (some (.inl (M 1 6)))) M) ∧ (a1 = 1 → Q (.inl (some (.inl (M 1 7)))) M) ∧ (a1 = 2 → Q (.inl (some (.inl (M 0 5)))) M) ∧ ((a1 < 0 ∨ 2 < a1) → Q (.inl (some (.inl (-1)))) M))) :
    pm_X L (13, 0, [some (.inr (.inl 0)), some (.inl a1)], [], M) Q := by
  refine x_iload_n i_13_0 rfl rfl ?_
  rcases (by omega : a1 = 0 ∨ a1 = 1 ∨ a1 = 2 ∨ (a1 < 0 ∨ 2 < a1)) with c1 | c1 | c1 | c1
  · replace h := h.1 c1
    refine x_swV i_13_1 c1 (by decide) rfl rfl ?_
    refine x_aload_n i_13_28 rfl rfl ?_
    refine x_getr i_13_29 f_13_12 g_0 rfl rfl ?_
    refine x_geti (v := M 1 6) i_13_32 f_13_126 g_1 rfl (rfl) rfl ?_
    exact x_ireti i_13_35 r_13 h
  · replace h := h.2.1 c1
    refine x_swV i_13_1 c1 (by decide) rfl rfl ?_
    refine x_aload_n i_13_36 rfl rfl ?_
    refine x_getr i_13_37 f_13_12 g_0 rfl rfl ?_
    refine x_geti (v := M 1 7) i_13_40 f_13_45 g_1 rfl (rfl) rfl ?_
    exact x_ireti i_13_43 r_13 h
  · replace h := h.2.2.1 c1
    refine x_swV i_13_1 c1 (by decide) rfl rfl ?_
    refine x_aload_n i_13_44 rfl rfl ?_
    refine x_geti (v := M 0 5) i_13_45 f_13_83 g_0 rfl (rfl) rfl ?_
    exact x_ireti i_13_48 r_13 h
  · replace h := h.2.2.2 c1
    refine x_swO i_13_1 rfl c1 ?_
    refine x_iconst i_13_49 (by decide) rfl ?_
    exact x_ireti i_13_50 r_13 h
/-! GateBench.literal at 0 -/
theorem s_14_0 {L : Nat} {M : pm_M} {Q : pm_P} {a0 : Int}
    (h : (pm_R (2 * a0)) ∧ Q (.inl (some (.inl (2 * a0)))) M) :
    pm_X L (14, 0, [some (.inl a0)], [], M) Q := by
  refine x_iconst i_14_0 (by decide) rfl ?_
  refine x_iload_n i_14_1 rfl rfl ?_
  obtain ⟨q1, h⟩ := h
  refine x_imul i_14_2 rfl q1 ?_
  exact x_ireti i_14_3 r_14 h
/-! GateBench.opposite at 0 -/
theorem s_15_0 {L : Nat} {M : pm_M} {Q : pm_P} {a0 : Int}
    (h : Q (.inl (some (.inl (pm_op a0)))) M) :
    pm_X L (15, 0, [some (.inl a0)], [], M) Q := by
  refine x_iload_n i_15_0 rfl rfl ?_
  refine x_iconst i_15_1 (by decide) rfl ?_
  refine x_ixor i_15_2 rfl ?_
  exact x_ireti i_15_3 r_15 h
/-! GateBench.formulaOf at 0 -/
theorem s_16_0 {L : Nat} {M : pm_M} {Q : pm_P} {a0 : Int}
    (h : Q (.inl (some (.inl (a0 / 2)))) M) :
    pm_X L (16, 0, [some (.inl a0)], [], M) Q := by
  refine x_iload_n i_16_0 rfl rfl ?_
  refine x_iconst i_16_1 (by decide) rfl ?_
  refine x_ishr i_16_2 rfl ?_
  exact x_ireti i_16_3 r_16 h
/-! GateBench.requireFormula at 0 -/
theorem s_17_0 {L : Nat} {M : pm_M} {Q : pm_P} {a1 : Int}
    (h : ((a1 < 0 → (1 ≤ M 99 0) ∧ Q (.inr 0) (pm_set M 99 0 (M 99 0 - 1))) ∧ (¬ (a1 < 0) → ((a1 < M 1 6 → Q (.inl none) M) ∧ (¬ (a1 < M 1 6) → (1 ≤ M 99 0) ∧ Q (.inr 0) (pm_set M 99 0 (M 99 0 - 1))))))) :
    pm_X L (17, 0, [some (.inr (.inl 0)), some (.inl a1)], [], M) Q := by
  refine x_iload_n i_17_0 rfl rfl ?_
  refine x_if (C := a1 < 0) i_17_1 rfl Iff.rfl rfl ⟨fun c1 => ?_, fun c1 => ?_⟩
  · replace h := h.1 c1
    obtain ⟨q2, h⟩ := h
    refine x_throw i_17_15 t_17_101 q2 ?_
    exact h
  · replace h := h.2 c1
    refine x_iload_n i_17_4 rfl rfl ?_
    refine x_aload_n i_17_5 rfl rfl ?_
    refine x_getr i_17_6 f_17_12 g_0 rfl rfl ?_
    refine x_geti (v := M 1 6) i_17_9 f_17_126 g_1 rfl (rfl) rfl ?_
    refine x_icmp (C := a1 < M 1 6) i_17_12 rfl Iff.rfl rfl ⟨fun c3 => ?_, fun c3 => ?_⟩
    · replace h := h.1 c3
      exact x_ret i_17_25 r_17 h
    · replace h := h.2 c3
      obtain ⟨q4, h⟩ := h
      refine x_throw i_17_15 t_17_101 q4 ?_
      exact h
/-! GateBench.requireRoom at 0 -/
theorem s_18_0 {L : Nat} {M : pm_M} {Q : pm_P}
    (h : ((¬ M 1 6 = 2000 → Q (.inl none) M) ∧ (¬ (¬ M 1 6 = 2000) → (1 ≤ M 99 0) ∧ Q (.inr 1) (pm_set M 99 0 (M 99 0 - 1))))) :
    pm_X L (18, 0, [some (.inr (.inl 0))], [], M) Q := by
  refine x_aload_n i_18_0 rfl rfl ?_
  refine x_getr i_18_1 f_18_12 g_0 rfl rfl ?_
  refine x_geti (v := M 1 6) i_18_4 f_18_126 g_1 rfl (rfl) rfl ?_
  refine x_sipush i_18_7 (by decide) rfl ?_
  refine x_icmp (C := ¬ M 1 6 = 2000) i_18_10 rfl Iff.rfl rfl ⟨fun c1 => ?_, fun c1 => ?_⟩
  · replace h := h.1 c1
    exact x_ret i_18_23 r_18 h
  · replace h := h.2 c1
    obtain ⟨q2, h⟩ := h
    refine x_throw i_18_13 t_18_49 q2 ?_
    exact h
/-! GateBench.askForListWithout at 0 -/
theorem s_19_0 {L : Nat} {M : pm_M} {Q : pm_P} {a1 : Int}
    (h : pm_X L (28, 0, [some (.inr (.inl 1)), none], [], pm_set (pm_set M 2 2 0) 2 3 0) (pm_back (pm_X L) 19 11 [some (.inr (.inl 0)), some (.inl a1), none] [] Q)) :
    pm_X L (19, 0, [some (.inr (.inl 0)), some (.inl a1), none], [], M) Q := by
  refine x_aload_n i_19_0 rfl rfl ?_
  refine x_getr i_19_1 f_19_19 g_0 rfl rfl ?_
  refine x_callv (as := []) (rest := []) i_19_4 k_19_133 rfl rfl rfl g_2 (Nat.le_of_ble_eq_true rfl) m_32 rfl ?_
  refine x_aload_n i_32_0 rfl rfl ?_
  refine x_iconst i_32_1 (by decide) rfl ?_
  refine x_puti i_32_2 f_32_19 g_2 rfl rfl ?_
  refine x_aload_n i_32_5 rfl rfl ?_
  refine x_iconst i_32_6 (by decide) rfl ?_
  refine x_puti i_32_7 f_32_23 g_2 rfl rfl ?_
  refine x_ret i_32_10 r_32 ?_
  refine x_bkv rfl ?_
  refine x_aload_n i_19_7 rfl rfl ?_
  refine x_getr i_19_8 f_19_12 g_0 rfl rfl ?_
  refine x_callv (as := []) (rest := []) i_19_11 k_19_136 rfl rfl rfl g_1 (Nat.le_of_ble_eq_true rfl) m_28 rfl h
/-! GateBench.askForListWithout at 14 -/
theorem s_19_14 {L : Nat} {M : pm_M} {Q : pm_P} {a1 : Int}
    (h : pm_X L (19, 16, [some (.inr (.inl 0)), some (.inl a1), some (.inl 0)], [], M) Q) :
    pm_X L (19, 14, [some (.inr (.inl 0)), some (.inl a1), none], [], M) Q := by
  refine x_iconst i_19_14 (by decide) rfl ?_
  refine x_istore_n i_19_15 (Nat.le_of_ble_eq_true rfl) rfl rfl ?_
  exact h
/-! GateBench.askForListWithout at 16 -/
theorem s_19_16 {L : Nat} {M : pm_M} {Q : pm_P} {a1 a2 : Int}
    (h : ((M 0 5 ≤ a2 → pm_X L (30, 0, [some (.inr (.inl 1)), some (.inr (.inl 2)), none], [], M) (pm_back (pm_X L) 19 74 [some (.inr (.inl 0)), some (.inl a1), some (.inl a2)] [] Q)) ∧ (¬ (M 0 5 ≤ a2) → ((a2 = a1 → (pm_R (a2 + 1)) ∧ pm_X L (19, 16, [some (.inr (.inl 0)), some (.inl a1), some (.inl (a2 + 1))], [], M) Q) ∧ (¬ (a2 = a1) → (0 ≤ a2 ∧ a2 < 20) ∧ (pm_R (2 * M 6 a2)) ∧ pm_X L (33, 0, [some (.inr (.inl 2)), some (.inl (2 * M 6 a2)), some (.inl 0), some (.inl 0)], [], M) (pm_back (pm_X L) 19 44 [some (.inr (.inl 0)), some (.inl a1), some (.inl a2)] [] Q)))))) :
    pm_X L (19, 16, [some (.inr (.inl 0)), some (.inl a1), some (.inl a2)], [], M) Q := by
  refine x_iload_n i_19_16 rfl rfl ?_
  refine x_aload_n i_19_17 rfl rfl ?_
  refine x_geti (v := M 0 5) i_19_18 f_19_83 g_0 rfl (rfl) rfl ?_
  refine x_icmp (C := M 0 5 ≤ a2) i_19_21 rfl Iff.rfl rfl ⟨fun c1 => ?_, fun c1 => ?_⟩
  · replace h := h.1 c1
    refine x_aload_n i_19_66 rfl rfl ?_
    refine x_getr i_19_67 f_19_12 g_0 rfl rfl ?_
    refine x_aload_n i_19_70 rfl rfl ?_
    refine x_getr i_19_71 f_19_19 g_0 rfl rfl ?_
    refine x_callv (as := [.inr (.inl 2)]) (rest := []) i_19_74 k_19_146 rfl rfl rfl g_1 (Nat.le_of_ble_eq_true rfl) m_30 rfl h
  · replace h := h.2 c1
    refine x_iload_n i_19_24 rfl rfl ?_
    refine x_iload_n i_19_25 rfl rfl ?_
    refine x_icmp (C := a2 = a1) i_19_26 rfl Iff.rfl rfl ⟨fun c2 => ?_, fun c2 => ?_⟩
    · replace h := h.1 c2
      obtain ⟨q3, h⟩ := h
      refine x_iinc i_19_60 rfl (by decide) rfl rfl q3 ?_
      refine x_goto i_19_63 rfl ?_
      exact h
    · replace h := h.2 c2
      refine x_aload_n i_19_29 rfl rfl ?_
      refine x_getr i_19_30 f_19_19 g_0 rfl rfl ?_
      refine x_aload_n i_19_33 rfl rfl ?_
      refine x_getr i_19_34 f_19_41 g_0 rfl rfl ?_
      refine x_iload_n i_19_37 rfl rfl ?_
      obtain ⟨q4, h⟩ := h
      refine x_iaload (v := M 6 a2) i_19_38 g_6 (rfl) rfl q4 ?_
      refine x_calls (as := [.inl (M 6 a2)]) (rest := [.inr (.inl 2)]) i_19_39 k_19_67 rfl rfl rfl (Nat.le_of_ble_eq_true rfl) m_14 rfl ?_
      refine x_iconst i_14_0 (by decide) rfl ?_
      refine x_iload_n i_14_1 rfl rfl ?_
      obtain ⟨q5, h⟩ := h
      refine x_imul i_14_2 rfl q5 ?_
      refine x_ireti i_14_3 r_14 ?_
      refine x_bki rfl ?_
      refine x_iconst i_19_42 (by decide) rfl ?_
      refine x_iconst i_19_43 (by decide) rfl ?_
      refine x_callv (as := [.inl (2 * M 6 a2), .inl 0, .inl 0]) (rest := []) i_19_44 k_19_139 rfl rfl rfl g_2 (Nat.le_of_ble_eq_true rfl) m_33 rfl h
/-! GateBench.askForListWithout at 47 -/
theorem s_19_47 {L : Nat} {M : pm_M} {Q : pm_P} {a1 a2 : Int}
    (h : (0 ≤ a2 ∧ a2 < 20) ∧ (0 ≤ M 6 a2 ∧ M 6 a2 < 2000) ∧ (pm_R (a2 + 1)) ∧ pm_X L (19, 16, [some (.inr (.inl 0)), some (.inl a1), some (.inl (a2 + 1))], [], pm_set M 11 (M 6 a2) 1) Q) :
    pm_X L (19, 47, [some (.inr (.inl 0)), some (.inl a1), some (.inl a2)], [], M) Q := by
  refine x_aload_n i_19_47 rfl rfl ?_
  refine x_getr i_19_48 f_19_12 g_0 rfl rfl ?_
  refine x_aload_n i_19_51 rfl rfl ?_
  refine x_getr i_19_52 f_19_41 g_0 rfl rfl ?_
  refine x_iload_n i_19_55 rfl rfl ?_
  obtain ⟨q1, h⟩ := h
  refine x_iaload (v := M 6 a2) i_19_56 g_6 (rfl) rfl q1 ?_
  refine x_callv (as := [.inl (M 6 a2)]) (rest := []) i_19_57 k_19_143 rfl rfl rfl g_1 (Nat.le_of_ble_eq_true rfl) m_29 rfl ?_
  refine x_aload_n i_29_0 rfl rfl ?_
  refine x_getr i_29_1 f_29_25 g_1 rfl rfl ?_
  refine x_iload_n i_29_4 rfl rfl ?_
  refine x_iconst i_29_5 (by decide) rfl ?_
  obtain ⟨q2, h⟩ := h
  refine x_bastore i_29_6 g_11 rfl ⟨q2, by unfold pm_bit; decide⟩ ?_
  refine x_ret i_29_7 r_29 ?_
  refine x_bkv rfl ?_
  obtain ⟨q3, h⟩ := h
  refine x_iinc i_19_60 rfl (by decide) rfl rfl q3 ?_
  refine x_goto i_19_63 rfl ?_
  exact h
/-! GateBench.askForListWithout at 77 -/
theorem s_19_77 {L : Nat} {M : pm_M} {Q : pm_P} {a1 a2 : Int}
    (h : Q (.inl none) M) :
    pm_X L (19, 77, [some (.inr (.inl 0)), some (.inl a1), some (.inl a2)], [], M) Q := by
  exact x_ret i_19_77 r_19 h
/-! GateBench.askForDifference at 0 -/
theorem s_20_0 {L : Nat} {M : pm_M} {Q : pm_P} {a1 a2 : Int}
    (h : pm_X L (28, 0, [some (.inr (.inl 1)), none], [], pm_set (pm_set M 2 2 0) 2 3 0) (pm_back (pm_X L) 20 11 [some (.inr (.inl 0)), some (.inl a1), some (.inl a2)] [] Q)) :
    pm_X L (20, 0, [some (.inr (.inl 0)), some (.inl a1), some (.inl a2)], [], M) Q := by
  refine x_aload_n i_20_0 rfl rfl ?_
  refine x_getr i_20_1 f_20_19 g_0 rfl rfl ?_
  refine x_callv (as := []) (rest := []) i_20_4 k_20_133 rfl rfl rfl g_2 (Nat.le_of_ble_eq_true rfl) m_32 rfl ?_
  refine x_aload_n i_32_0 rfl rfl ?_
  refine x_iconst i_32_1 (by decide) rfl ?_
  refine x_puti i_32_2 f_32_19 g_2 rfl rfl ?_
  refine x_aload_n i_32_5 rfl rfl ?_
  refine x_iconst i_32_6 (by decide) rfl ?_
  refine x_puti i_32_7 f_32_23 g_2 rfl rfl ?_
  refine x_ret i_32_10 r_32 ?_
  refine x_bkv rfl ?_
  refine x_aload_n i_20_7 rfl rfl ?_
  refine x_getr i_20_8 f_20_12 g_0 rfl rfl ?_
  refine x_callv (as := []) (rest := []) i_20_11 k_20_136 rfl rfl rfl g_1 (Nat.le_of_ble_eq_true rfl) m_28 rfl h
/-! GateBench.askForDifference at 14 -/
theorem s_20_14 {L : Nat} {M : pm_M} {Q : pm_P} {a1 a2 : Int}
    (h : (pm_R (2 * a1)) ∧ (pm_R (2 * a2)) ∧ pm_X L (33, 0, [some (.inr (.inl 2)), some (.inl (2 * a1)), some (.inl (2 * a2)), some (.inl 0)], [], M) (pm_back (pm_X L) 20 27 [some (.inr (.inl 0)), some (.inl a1), some (.inl a2)] [] Q)) :
    pm_X L (20, 14, [some (.inr (.inl 0)), some (.inl a1), some (.inl a2)], [], M) Q := by
  refine x_aload_n i_20_14 rfl rfl ?_
  refine x_getr i_20_15 f_20_19 g_0 rfl rfl ?_
  refine x_iload_n i_20_18 rfl rfl ?_
  refine x_calls (as := [.inl a1]) (rest := [.inr (.inl 2)]) i_20_19 k_20_67 rfl rfl rfl (Nat.le_of_ble_eq_true rfl) m_14 rfl ?_
  refine x_iconst i_14_0 (by decide) rfl ?_
  refine x_iload_n i_14_1 rfl rfl ?_
  obtain ⟨q1, h⟩ := h
  refine x_imul i_14_2 rfl q1 ?_
  refine x_ireti i_14_3 r_14 ?_
  refine x_bki rfl ?_
  refine x_iload_n i_20_22 rfl rfl ?_
  refine x_calls (as := [.inl a2]) (rest := [.inl (2 * a1), .inr (.inl 2)]) i_20_23 k_20_67 rfl rfl rfl (Nat.le_of_ble_eq_true rfl) m_14 rfl ?_
  refine x_iconst i_14_0 (by decide) rfl ?_
  refine x_iload_n i_14_1 rfl rfl ?_
  obtain ⟨q2, h⟩ := h
  refine x_imul i_14_2 rfl q2 ?_
  refine x_ireti i_14_3 r_14 ?_
  refine x_bki rfl ?_
  refine x_iconst i_20_26 (by decide) rfl ?_
  refine x_callv (as := [.inl (2 * a1), .inl (2 * a2), .inl 0]) (rest := []) i_20_27 k_20_139 rfl rfl rfl g_2 (Nat.le_of_ble_eq_true rfl) m_33 rfl h
/-! GateBench.askForDifference at 30 -/
theorem s_20_30 {L : Nat} {M : pm_M} {Q : pm_P} {a1 a2 : Int}
    (h : (pm_R (2 * a1)) ∧ (pm_R (2 * a2)) ∧ pm_X L (33, 0, [some (.inr (.inl 2)), some (.inl (pm_op (2 * a1))), some (.inl (pm_op (2 * a2))), some (.inl 0)], [], M) (pm_back (pm_X L) 20 49 [some (.inr (.inl 0)), some (.inl a1), some (.inl a2)] [] Q)) :
    pm_X L (20, 30, [some (.inr (.inl 0)), some (.inl a1), some (.inl a2)], [], M) Q := by
  refine x_aload_n i_20_30 rfl rfl ?_
  refine x_getr i_20_31 f_20_19 g_0 rfl rfl ?_
  refine x_iload_n i_20_34 rfl rfl ?_
  refine x_calls (as := [.inl a1]) (rest := [.inr (.inl 2)]) i_20_35 k_20_67 rfl rfl rfl (Nat.le_of_ble_eq_true rfl) m_14 rfl ?_
  refine x_iconst i_14_0 (by decide) rfl ?_
  refine x_iload_n i_14_1 rfl rfl ?_
  obtain ⟨q1, h⟩ := h
  refine x_imul i_14_2 rfl q1 ?_
  refine x_ireti i_14_3 r_14 ?_
  refine x_bki rfl ?_
  refine x_calls (as := [.inl (2 * a1)]) (rest := [.inr (.inl 2)]) i_20_38 k_20_80 rfl rfl rfl (Nat.le_of_ble_eq_true rfl) m_15 rfl ?_
  refine x_iload_n i_15_0 rfl rfl ?_
  refine x_iconst i_15_1 (by decide) rfl ?_
  refine x_ixor i_15_2 rfl ?_
  refine x_ireti i_15_3 r_15 ?_
  refine x_bki rfl ?_
  refine x_iload_n i_20_41 rfl rfl ?_
  refine x_calls (as := [.inl a2]) (rest := [.inl (pm_op (2 * a1)), .inr (.inl 2)]) i_20_42 k_20_67 rfl rfl rfl (Nat.le_of_ble_eq_true rfl) m_14 rfl ?_
  refine x_iconst i_14_0 (by decide) rfl ?_
  refine x_iload_n i_14_1 rfl rfl ?_
  obtain ⟨q2, h⟩ := h
  refine x_imul i_14_2 rfl q2 ?_
  refine x_ireti i_14_3 r_14 ?_
  refine x_bki rfl ?_
  refine x_calls (as := [.inl (2 * a2)]) (rest := [.inl (pm_op (2 * a1)), .inr (.inl 2)]) i_20_45 k_20_80 rfl rfl rfl (Nat.le_of_ble_eq_true rfl) m_15 rfl ?_
  refine x_iload_n i_15_0 rfl rfl ?_
  refine x_iconst i_15_1 (by decide) rfl ?_
  refine x_ixor i_15_2 rfl ?_
  refine x_ireti i_15_3 r_15 ?_
  refine x_bki rfl ?_
  refine x_iconst i_20_48 (by decide) rfl ?_
  refine x_callv (as := [.inl (pm_op (2 * a1)), .inl (pm_op (2 * a2)), .inl 0]) (rest := []) i_20_49 k_20_139 rfl rfl rfl g_2 (Nat.le_of_ble_eq_true rfl) m_33 rfl h
/-! GateBench.askForDifference at 52 -/
theorem s_20_52 {L : Nat} {M : pm_M} {Q : pm_P} {a1 a2 : Int}
    (h : (0 ≤ a1 ∧ a1 < 2000) ∧ (0 ≤ a2 ∧ a2 < 2000) ∧ pm_X L (30, 0, [some (.inr (.inl 1)), some (.inr (.inl 2)), none], [], pm_set (pm_set M 11 a1 1) 11 a2 1) (pm_back (pm_X L) 20 76 [some (.inr (.inl 0)), some (.inl a1), some (.inl a2)] [] Q)) :
    pm_X L (20, 52, [some (.inr (.inl 0)), some (.inl a1), some (.inl a2)], [], M) Q := by
  refine x_aload_n i_20_52 rfl rfl ?_
  refine x_getr i_20_53 f_20_12 g_0 rfl rfl ?_
  refine x_iload_n i_20_56 rfl rfl ?_
  refine x_callv (as := [.inl a1]) (rest := []) i_20_57 k_20_143 rfl rfl rfl g_1 (Nat.le_of_ble_eq_true rfl) m_29 rfl ?_
  refine x_aload_n i_29_0 rfl rfl ?_
  refine x_getr i_29_1 f_29_25 g_1 rfl rfl ?_
  refine x_iload_n i_29_4 rfl rfl ?_
  refine x_iconst i_29_5 (by decide) rfl ?_
  obtain ⟨q1, h⟩ := h
  refine x_bastore i_29_6 g_11 rfl ⟨q1, by unfold pm_bit; decide⟩ ?_
  refine x_ret i_29_7 r_29 ?_
  refine x_bkv rfl ?_
  refine x_aload_n i_20_60 rfl rfl ?_
  refine x_getr i_20_61 f_20_12 g_0 rfl rfl ?_
  refine x_iload_n i_20_64 rfl rfl ?_
  refine x_callv (as := [.inl a2]) (rest := []) i_20_65 k_20_143 rfl rfl rfl g_1 (Nat.le_of_ble_eq_true rfl) m_29 rfl ?_
  refine x_aload_n i_29_0 rfl rfl ?_
  refine x_getr i_29_1 f_29_25 g_1 rfl rfl ?_
  refine x_iload_n i_29_4 rfl rfl ?_
  refine x_iconst i_29_5 (by decide) rfl ?_
  obtain ⟨q2, h⟩ := h
  refine x_bastore i_29_6 g_11 rfl ⟨q2, by unfold pm_bit; decide⟩ ?_
  refine x_ret i_29_7 r_29 ?_
  refine x_bkv rfl ?_
  refine x_aload_n i_20_68 rfl rfl ?_
  refine x_getr i_20_69 f_20_12 g_0 rfl rfl ?_
  refine x_aload_n i_20_72 rfl rfl ?_
  refine x_getr i_20_73 f_20_19 g_0 rfl rfl ?_
  refine x_callv (as := [.inr (.inl 2)]) (rest := []) i_20_76 k_20_146 rfl rfl rfl g_1 (Nat.le_of_ble_eq_true rfl) m_30 rfl h
/-! GateBench.askForDifference at 79 -/
theorem s_20_79 {L : Nat} {M : pm_M} {Q : pm_P} {a1 a2 : Int}
    (h : Q (.inl none) M) :
    pm_X L (20, 79, [some (.inr (.inl 0)), some (.inl a1), some (.inl a2)], [], M) Q := by
  exact x_ret i_20_79 r_20 h
/-! GateBench.findInputs at 0 -/
theorem s_21_0 {L : Nat} {M : pm_M} {Q : pm_P}
    (h : pm_X L (43, 0, [some (.inr (.inl 4)), none, none, none], [], pm_set (pm_set M 3 3 (M 2 2)) 3 4 0) (pm_back (pm_X L) 21 11 [some (.inr (.inl 0)), none] [] Q)) :
    pm_X L (21, 0, [some (.inr (.inl 0)), none], [], M) Q := by
  refine x_aload_n i_21_0 rfl rfl ?_
  refine x_getr i_21_1 f_21_28 g_0 rfl rfl ?_
  refine x_callv (as := []) (rest := []) i_21_4 k_21_149 rfl rfl rfl g_3 (Nat.le_of_ble_eq_true rfl) m_37 rfl ?_
  refine x_aload_n i_37_0 rfl rfl ?_
  refine x_aload_n i_37_1 rfl rfl ?_
  refine x_getr i_37_2 f_37_15 g_3 rfl rfl ?_
  refine x_geti (v := M 2 2) i_37_5 f_37_19 g_2 rfl (rfl) rfl ?_
  refine x_puti i_37_8 f_37_25 g_3 rfl rfl ?_
  refine x_aload_n i_37_11 rfl rfl ?_
  refine x_iconst i_37_12 (by decide) rfl ?_
  refine x_putz i_37_13 f_37_28 g_3 rfl rfl (by unfold pm_bit; decide) ?_
  refine x_ret i_37_16 r_37 ?_
  refine x_bkv rfl ?_
  refine x_aload_n i_21_7 rfl rfl ?_
  refine x_getr i_21_8 f_21_37 g_0 rfl rfl ?_
  refine x_callv (as := []) (rest := []) i_21_11 k_21_152 rfl rfl rfl g_4 (Nat.le_of_ble_eq_true rfl) m_43 rfl h
/-! GateBench.findInputs at 14 -/
theorem s_21_14 {L : Nat} {M : pm_M} {Q : pm_P} {r : Int}
    (h : ((¬ r = 0 → (pm_bit r) ∧ Q (.inl (some (.inl r))) M) ∧ (¬ (¬ r = 0) → (pm_bit (M 3 4)) ∧ ((¬ M 3 4 = 0 → (pm_bit r) ∧ Q (.inl (some (.inl r))) M) ∧ (¬ (¬ M 3 4 = 0) → (pm_R (M 0 6 + 1)) ∧ (pm_bit r) ∧ Q (.inl (some (.inl r))) (pm_set M 0 6 (M 0 6 + 1))))))) :
    pm_X L (21, 14, [some (.inr (.inl 0)), none], [.inl r], M) Q := by
  refine x_istore_n i_21_14 (Nat.le_of_ble_eq_true rfl) rfl rfl ?_
  refine x_iload_n i_21_15 rfl rfl ?_
  refine x_if (C := ¬ r = 0) i_21_16 rfl Iff.rfl rfl ⟨fun c1 => ?_, fun c1 => ?_⟩
  · replace h := h.1 c1
    refine x_iload_n i_21_39 rfl rfl ?_
    obtain ⟨q2, h⟩ := h
    exact x_iretz i_21_40 r_21 q2 h
  · replace h := h.2 c1
    refine x_aload_n i_21_19 rfl rfl ?_
    refine x_getr i_21_20 f_21_28 g_0 rfl rfl ?_
    refine x_callv (as := []) (rest := []) i_21_23 k_21_155 rfl rfl rfl g_3 (Nat.le_of_ble_eq_true rfl) m_38 rfl ?_
    refine x_aload_n i_38_0 rfl rfl ?_
    refine x_geti (v := M 3 4) i_38_1 f_38_28 g_3 rfl (rfl) rfl ?_
    obtain ⟨q3, h⟩ := h
    refine x_iretz i_38_4 r_38 q3 ?_
    refine x_bki rfl ?_
    refine x_if (C := ¬ M 3 4 = 0) i_21_26 rfl Iff.rfl rfl ⟨fun c4 => ?_, fun c4 => ?_⟩
    · replace h := h.1 c4
      refine x_iload_n i_21_39 rfl rfl ?_
      obtain ⟨q5, h⟩ := h
      exact x_iretz i_21_40 r_21 q5 h
    · replace h := h.2 c4
      refine x_aload_n i_21_29 rfl rfl ?_
      refine x_dup i_21_30 rfl rfl ?_
      refine x_geti (v := M 0 6) i_21_31 f_21_123 g_0 rfl (rfl) rfl ?_
      refine x_iconst i_21_34 (by decide) rfl ?_
      obtain ⟨q6, h⟩ := h
      refine x_iadd i_21_35 rfl q6 ?_
      refine x_puti i_21_36 f_21_123 g_0 rfl rfl ?_
      refine x_iload_n i_21_39 rfl rfl ?_
      obtain ⟨q7, h⟩ := h
      exact x_iretz i_21_40 r_21 q7 h
/-! GateBench.takeInputsFound at 0 -/
theorem s_22_0 {L : Nat} {M : pm_M} {Q : pm_P}
    (h : pm_X L (22, 2, [some (.inr (.inl 0)), some (.inl 0), none], [], M) Q) :
    pm_X L (22, 0, [some (.inr (.inl 0)), none, none], [], M) Q := by
  refine x_iconst i_22_0 (by decide) rfl ?_
  refine x_istore_n i_22_1 (Nat.le_of_ble_eq_true rfl) rfl rfl ?_
  exact h
/-! GateBench.takeInputsFound at 2 -/
theorem s_22_2 {L : Nat} {M : pm_M} {Q : pm_P} {a1 : Int} {o2 : Option pm_V}
    (h : ((M 1 7 ≤ a1 → Q (.inl none) M) ∧ (¬ (M 1 7 ≤ a1) → (0 ≤ a1 ∧ a1 < 12) ∧ (pm_R (2 * M 12 a1)) ∧ (0 ≤ 2 * M 12 a1 ∧ 2 * M 12 a1 < 4000) ∧ (pm_bit (M 20 (2 * M 12 a1))) ∧ ((0 ≤ M 12 a1 ∧ M 12 a1 < 2000) ∧ pm_bit (M 20 (2 * M 12 a1))) ∧ (pm_R (a1 + 1)) ∧ pm_X L (22, 2, [some (.inr (.inl 0)), some (.inl (a1 + 1)), some (.inl (M 12 a1))], [], pm_set M 10 (M 12 a1) (M 20 (2 * M 12 a1))) Q))) :
    pm_X L (22, 2, [some (.inr (.inl 0)), some (.inl a1), o2], [], M) Q := by
  refine x_iload_n i_22_2 rfl rfl ?_
  refine x_aload_n i_22_3 rfl rfl ?_
  refine x_getr i_22_4 f_22_12 g_0 rfl rfl ?_
  refine x_geti (v := M 1 7) i_22_7 f_22_45 g_1 rfl (rfl) rfl ?_
  refine x_icmp (C := M 1 7 ≤ a1) i_22_10 rfl Iff.rfl rfl ⟨fun c1 => ?_, fun c1 => ?_⟩
  · replace h := h.1 c1
    exact x_ret i_22_46 r_22 h
  · replace h := h.2 c1
    refine x_aload_n i_22_13 rfl rfl ?_
    refine x_getr i_22_14 f_22_12 g_0 rfl rfl ?_
    refine x_getr i_22_17 f_22_112 g_1 rfl rfl ?_
    refine x_iload_n i_22_20 rfl rfl ?_
    obtain ⟨q2, h⟩ := h
    refine x_iaload (v := M 12 a1) i_22_21 g_12 (rfl) rfl q2 ?_
    refine x_istore_n i_22_22 (Nat.le_of_ble_eq_true rfl) rfl rfl ?_
    refine x_aload_n i_22_23 rfl rfl ?_
    refine x_getr i_22_24 f_22_12 g_0 rfl rfl ?_
    refine x_getr i_22_27 f_22_115 g_1 rfl rfl ?_
    refine x_iload_n i_22_30 rfl rfl ?_
    refine x_aload_n i_22_31 rfl rfl ?_
    refine x_getr i_22_32 f_22_37 g_0 rfl rfl ?_
    refine x_iload_n i_22_35 rfl rfl ?_
    refine x_callv (as := [.inl (M 12 a1)]) (rest := [.inl (M 12 a1), .inr (.inl 10)]) i_22_36 k_22_158 rfl rfl rfl g_4 (Nat.le_of_ble_eq_true rfl) m_42 rfl ?_
    refine x_aload_n i_42_0 rfl rfl ?_
    refine x_getr i_42_1 f_42_12 g_4 rfl rfl ?_
    refine x_getr i_42_4 f_42_44 g_5 rfl rfl ?_
    refine x_iload_n i_42_7 rfl rfl ?_
    refine x_calls (as := [.inl (M 12 a1)]) (rest := [.inr (.inl 20)]) i_42_8 k_42_47 rfl rfl rfl (Nat.le_of_ble_eq_true rfl) m_14 rfl ?_
    refine x_iconst i_14_0 (by decide) rfl ?_
    refine x_iload_n i_14_1 rfl rfl ?_
    obtain ⟨q3, h⟩ := h
    refine x_imul i_14_2 rfl q3 ?_
    refine x_ireti i_14_3 r_14 ?_
    refine x_bki rfl ?_
    obtain ⟨q4, h⟩ := h
    refine x_baload (v := M 20 (2 * M 12 a1)) i_42_11 g_20 (rfl) rfl q4 ?_
    obtain ⟨q5, h⟩ := h
    refine x_iretz i_42_12 r_42 q5 ?_
    refine x_bki rfl ?_
    obtain ⟨q6, h⟩ := h
    refine x_bastore i_22_39 g_10 rfl q6 ?_
    obtain ⟨q7, h⟩ := h
    refine x_iinc i_22_40 rfl (by decide) rfl rfl q7 ?_
    refine x_goto i_22_43 rfl ?_
    exact h
/-! GateBench.dropWanted at 0 -/
theorem s_23_0 {L : Nat} {M : pm_M} {Q : pm_P} {a1 : Int}
    (h : (pm_R (M 0 5 - 1)) ∧ pm_X L (23, 12, [some (.inr (.inl 0)), some (.inl a1), some (.inl a1)], [], pm_set M 0 5 (M 0 5 - 1)) Q) :
    pm_X L (23, 0, [some (.inr (.inl 0)), some (.inl a1), none], [], M) Q := by
  refine x_aload_n i_23_0 rfl rfl ?_
  refine x_dup i_23_1 rfl rfl ?_
  refine x_geti (v := M 0 5) i_23_2 f_23_83 g_0 rfl (rfl) rfl ?_
  refine x_iconst i_23_5 (by decide) rfl ?_
  obtain ⟨q1, h⟩ := h
  refine x_isub i_23_6 rfl q1 ?_
  refine x_puti i_23_7 f_23_83 g_0 rfl rfl ?_
  refine x_iload_n i_23_10 rfl rfl ?_
  refine x_istore_n i_23_11 (Nat.le_of_ble_eq_true rfl) rfl rfl ?_
  exact h
/-! GateBench.dropWanted at 12 -/
theorem s_23_12 {L : Nat} {M : pm_M} {Q : pm_P} {a1 a2 : Int}
    (h : ((M 0 5 ≤ a2 → Q (.inl none) M) ∧ (¬ (M 0 5 ≤ a2) → (pm_R (a2 + 1)) ∧ (0 ≤ a2 + 1 ∧ a2 + 1 < 20) ∧ (0 ≤ a2 ∧ a2 < 20) ∧ pm_X L (23, 12, [some (.inr (.inl 0)), some (.inl a1), some (.inl (a2 + 1))], [], pm_set M 6 a2 (M 6 (a2 + 1))) Q))) :
    pm_X L (23, 12, [some (.inr (.inl 0)), some (.inl a1), some (.inl a2)], [], M) Q := by
  refine x_iload_n i_23_12 rfl rfl ?_
  refine x_aload_n i_23_13 rfl rfl ?_
  refine x_geti (v := M 0 5) i_23_14 f_23_83 g_0 rfl (rfl) rfl ?_
  refine x_icmp (C := M 0 5 ≤ a2) i_23_17 rfl Iff.rfl rfl ⟨fun c1 => ?_, fun c1 => ?_⟩
  · replace h := h.1 c1
    exact x_ret i_23_40 r_23 h
  · replace h := h.2 c1
    refine x_aload_n i_23_20 rfl rfl ?_
    refine x_getr i_23_21 f_23_41 g_0 rfl rfl ?_
    refine x_iload_n i_23_24 rfl rfl ?_
    refine x_aload_n i_23_25 rfl rfl ?_
    refine x_getr i_23_26 f_23_41 g_0 rfl rfl ?_
    refine x_iload_n i_23_29 rfl rfl ?_
    refine x_iconst i_23_30 (by decide) rfl ?_
    obtain ⟨q2, h⟩ := h
    refine x_iadd i_23_31 rfl q2 ?_
    obtain ⟨q3, h⟩ := h
    refine x_iaload (v := M 6 (a2 + 1)) i_23_32 g_6 (rfl) rfl q3 ?_
    obtain ⟨q4, h⟩ := h
    refine x_iastore i_23_33 g_6 rfl q4 ?_
    refine x_iinc i_23_34 rfl (by decide) rfl rfl q2 ?_
    refine x_goto i_23_37 rfl ?_
    exact h
/-! GateBench$Circuit.addInput at 0 -/
theorem s_24_0 {L : Nat} {M : pm_M} {Q : pm_P}
    (h : (0 ≤ M 1 7 ∧ M 1 7 < 12) ∧ (pm_R (M 1 7 + 1)) ∧ (0 ≤ M 1 6 ∧ M 1 6 < 2000) ∧ (pm_R (M 1 6 + 1)) ∧ Q (.inl (some (.inl (M 1 6)))) (pm_set (pm_set (pm_set (pm_set (pm_set (pm_set M 12 (M 1 7) (M 1 6)) 1 7 (M 1 7 + 1)) 7 (M 1 6) (-1)) 8 (M 1 6) 0) 9 (M 1 6) 0) 1 6 (M 1 6 + 1))) :
    pm_X L (24, 0, [some (.inr (.inl 1))], [], M) Q := by
  refine x_aload_n i_24_0 rfl rfl ?_
  refine x_getr i_24_1 f_24_28 g_1 rfl rfl ?_
  refine x_aload_n i_24_4 rfl rfl ?_
  refine x_geti (v := M 1 7) i_24_5 f_24_35 g_1 rfl (rfl) rfl ?_
  refine x_aload_n i_24_8 rfl rfl ?_
  refine x_geti (v := M 1 6) i_24_9 f_24_31 g_1 rfl (rfl) rfl ?_
  obtain ⟨q1, h⟩ := h
  refine x_iastore i_24_12 g_12 rfl q1 ?_
  refine x_aload_n i_24_13 rfl rfl ?_
  refine x_dup i_24_14 rfl rfl ?_
  refine x_geti (v := M 1 7) i_24_15 f_24_35 g_1 rfl (pm_get_c (by decide) rfl) rfl ?_
  refine x_iconst i_24_18 (by decide) rfl ?_
  obtain ⟨q2, h⟩ := h
  refine x_iadd i_24_19 rfl q2 ?_
  refine x_puti i_24_20 f_24_35 g_1 rfl rfl ?_
  refine x_aload_n i_24_23 rfl rfl ?_
  refine x_iconst i_24_24 (by decide) rfl ?_
  refine x_iconst i_24_25 (by decide) rfl ?_
  refine x_iconst i_24_26 (by decide) rfl ?_
  refine x_callv (as := [.inl (-1), .inl 0, .inl 0]) (rest := []) i_24_27 k_24_38 rfl rfl rfl g_1 (Nat.le_of_ble_eq_true rfl) m_25 rfl ?_
  refine x_aload_n i_25_0 rfl rfl ?_
  refine x_geti (v := M 1 6) i_25_1 f_25_31 g_1 rfl (pm_get_j (by decide) (pm_get_c (by decide) rfl)) rfl ?_
  refine x_istore i_25_4 (Nat.le_of_ble_eq_true rfl) rfl rfl ?_
  refine x_aload_n i_25_6 rfl rfl ?_
  refine x_getr i_25_7 f_25_9 g_1 rfl rfl ?_
  refine x_iload i_25_10 rfl rfl ?_
  refine x_iload_n i_25_12 rfl rfl ?_
  obtain ⟨q3, h⟩ := h
  refine x_iastore i_25_13 g_7 rfl q3 ?_
  refine x_aload_n i_25_14 rfl rfl ?_
  refine x_getr i_25_15 f_25_15 g_1 rfl rfl ?_
  refine x_iload i_25_18 rfl rfl ?_
  refine x_iload_n i_25_20 rfl rfl ?_
  refine x_iastore i_25_21 g_8 rfl q3 ?_
  refine x_aload_n i_25_22 rfl rfl ?_
  refine x_getr i_25_23 f_25_18 g_1 rfl rfl ?_
  refine x_iload i_25_26 rfl rfl ?_
  refine x_iload_n i_25_28 rfl rfl ?_
  refine x_iastore i_25_29 g_9 rfl q3 ?_
  refine x_aload_n i_25_30 rfl rfl ?_
  refine x_dup i_25_31 rfl rfl ?_
  refine x_geti (v := M 1 6) i_25_32 f_25_31 g_1 rfl (pm_get_c (by decide) (pm_get_c (by decide) (pm_get_c (by decide) (pm_get_j (by decide) (pm_get_c (by decide) rfl))))) rfl ?_
  refine x_iconst i_25_35 (by decide) rfl ?_
  obtain ⟨q4, h⟩ := h
  refine x_iadd i_25_36 rfl q4 ?_
  refine x_puti i_25_37 f_25_31 g_1 rfl rfl ?_
  refine x_iload i_25_40 rfl rfl ?_
  refine x_ireti i_25_42 r_25 ?_
  refine x_bki rfl ?_
  exact x_ireti i_24_30 r_24 h
/-! GateBench$Circuit.addGate at 0 -/
theorem s_25_0 {L : Nat} {M : pm_M} {Q : pm_P} {a1 a2 a3 : Int}
    (h : (0 ≤ M 1 6 ∧ M 1 6 < 2000) ∧ (pm_R (M 1 6 + 1)) ∧ Q (.inl (some (.inl (M 1 6)))) (pm_set (pm_set (pm_set (pm_set M 7 (M 1 6) a1) 8 (M 1 6) a2) 9 (M 1 6) a3) 1 6 (M 1 6 + 1))) :
    pm_X L (25, 0, [some (.inr (.inl 1)), some (.inl a1), some (.inl a2), some (.inl a3), none], [], M) Q := by
  refine x_aload_n i_25_0 rfl rfl ?_
  refine x_geti (v := M 1 6) i_25_1 f_25_31 g_1 rfl (rfl) rfl ?_
  refine x_istore i_25_4 (Nat.le_of_ble_eq_true rfl) rfl rfl ?_
  refine x_aload_n i_25_6 rfl rfl ?_
  refine x_getr i_25_7 f_25_9 g_1 rfl rfl ?_
  refine x_iload i_25_10 rfl rfl ?_
  refine x_iload_n i_25_12 rfl rfl ?_
  obtain ⟨q1, h⟩ := h
  refine x_iastore i_25_13 g_7 rfl q1 ?_
  refine x_aload_n i_25_14 rfl rfl ?_
  refine x_getr i_25_15 f_25_15 g_1 rfl rfl ?_
  refine x_iload i_25_18 rfl rfl ?_
  refine x_iload_n i_25_20 rfl rfl ?_
  refine x_iastore i_25_21 g_8 rfl q1 ?_
  refine x_aload_n i_25_22 rfl rfl ?_
  refine x_getr i_25_23 f_25_18 g_1 rfl rfl ?_
  refine x_iload i_25_26 rfl rfl ?_
  refine x_iload_n i_25_28 rfl rfl ?_
  refine x_iastore i_25_29 g_9 rfl q1 ?_
  refine x_aload_n i_25_30 rfl rfl ?_
  refine x_dup i_25_31 rfl rfl ?_
  refine x_geti (v := M 1 6) i_25_32 f_25_31 g_1 rfl (pm_get_c (by decide) (pm_get_c (by decide) (pm_get_c (by decide) rfl))) rfl ?_
  refine x_iconst i_25_35 (by decide) rfl ?_
  obtain ⟨q2, h⟩ := h
  refine x_iadd i_25_36 rfl q2 ?_
  refine x_puti i_25_37 f_25_31 g_1 rfl rfl ?_
  refine x_iload i_25_40 rfl rfl ?_
  exact x_ireti i_25_42 r_25 h
/-! GateBench$Circuit.evaluate at 0 -/
theorem s_26_0 {L : Nat} {M : pm_M} {Q : pm_P} {a1 : Int}
    (h : pm_X L (26, 2, [some (.inr (.inl 1)), some (.inl a1), some (.inl 1)], [], M) Q) :
    pm_X L (26, 0, [some (.inr (.inl 1)), some (.inl a1), none], [], M) Q := by
  refine x_iconst i_26_0 (by decide) rfl ?_
  refine x_istore_n i_26_1 (Nat.le_of_ble_eq_true rfl) rfl rfl ?_
  exact h
/-! GateBench$Circuit.evaluate at 2 -/
theorem s_26_2 {L : Nat} {M : pm_M} {Q : pm_P} {a1 a2 : Int}
    (h : ((a1 < a2 → (0 ≤ a1 ∧ a1 < 2000) ∧ (pm_bit (M 10 a1)) ∧ Q (.inl (some (.inl (M 10 a1)))) M) ∧ (¬ (a1 < a2) → (0 ≤ a2 ∧ a2 < 2000) ∧ ((M 7 a2 = -1 → (pm_R (a2 + 1)) ∧ pm_X L (26, 2, [some (.inr (.inl 1)), some (.inl a1), some (.inl (a2 + 1))], [], M) Q) ∧ (¬ (M 7 a2 = -1) → pm_X L (27, 0, [some (.inr (.inl 1)), some (.inl (M 7 a2))], [], M) (pm_back (pm_X L) 26 29 [some (.inr (.inl 1)), some (.inl a1), some (.inl a2)] [.inl a2, .inr (.inl 10)] Q)))))) :
    pm_X L (26, 2, [some (.inr (.inl 1)), some (.inl a1), some (.inl a2)], [], M) Q := by
  refine x_iload_n i_26_2 rfl rfl ?_
  refine x_iload_n i_26_3 rfl rfl ?_
  refine x_icmp (C := a1 < a2) i_26_4 rfl Iff.rfl rfl ⟨fun c1 => ?_, fun c1 => ?_⟩
  · replace h := h.1 c1
    refine x_aload_n i_26_65 rfl rfl ?_
    refine x_getr i_26_66 f_26_21 g_1 rfl rfl ?_
    refine x_iload_n i_26_69 rfl rfl ?_
    obtain ⟨q2, h⟩ := h
    refine x_baload (v := M 10 a1) i_26_70 g_10 (rfl) rfl q2 ?_
    obtain ⟨q3, h⟩ := h
    exact x_iretz i_26_71 r_26 q3 h
  · replace h := h.2 c1
    refine x_aload_n i_26_7 rfl rfl ?_
    refine x_getr i_26_8 f_26_9 g_1 rfl rfl ?_
    refine x_iload_n i_26_11 rfl rfl ?_
    obtain ⟨q4, h⟩ := h
    refine x_iaload (v := M 7 a2) i_26_12 g_7 (rfl) rfl q4 ?_
    refine x_iconst i_26_13 (by decide) rfl ?_
    refine x_icmp (C := M 7 a2 = -1) i_26_14 rfl Iff.rfl rfl ⟨fun c5 => ?_, fun c5 => ?_⟩
    · replace h := h.1 c5
      obtain ⟨q6, h⟩ := h
      refine x_iinc i_26_59 rfl (by decide) rfl rfl q6 ?_
      refine x_goto i_26_62 rfl ?_
      exact h
    · replace h := h.2 c5
      refine x_aload_n i_26_17 rfl rfl ?_
      refine x_getr i_26_18 f_26_21 g_1 rfl rfl ?_
      refine x_iload_n i_26_21 rfl rfl ?_
      refine x_aload_n i_26_22 rfl rfl ?_
      refine x_aload_n i_26_23 rfl rfl ?_
      refine x_getr i_26_24 f_26_9 g_1 rfl rfl ?_
      refine x_iload_n i_26_27 rfl rfl ?_
      refine x_iaload (v := M 7 a2) i_26_28 g_7 (rfl) rfl q4 ?_
      refine x_callv (as := [.inl (M 7 a2)]) (rest := [.inl a2, .inr (.inl 10)]) i_26_29 k_26_42 rfl rfl rfl g_1 (Nat.le_of_ble_eq_true rfl) m_27 rfl h
/-! GateBench$Circuit.evaluate at 32 -/
theorem s_26_32 {L : Nat} {M : pm_M} {Q : pm_P} {a1 a2 r t1 : Int}
    (h : ((r = 0 → (0 ≤ a2 ∧ a2 < 2000) ∧ pm_X L (27, 0, [some (.inr (.inl 1)), some (.inl (M 9 a2))], [], M) (pm_back (pm_X L) 26 55 [some (.inr (.inl 1)), some (.inl a1), some (.inl a2)] [.inl t1, .inr (.inl 10)] Q)) ∧ (¬ (r = 0) → (0 ≤ a2 ∧ a2 < 2000) ∧ pm_X L (27, 0, [some (.inr (.inl 1)), some (.inl (M 8 a2))], [], M) (pm_back (pm_X L) 26 42 [some (.inr (.inl 1)), some (.inl a1), some (.inl a2)] [.inl t1, .inr (.inl 10)] Q)))) :
    pm_X L (26, 32, [some (.inr (.inl 1)), some (.inl a1), some (.inl a2)], [.inl r, .inl t1, .inr (.inl 10)], M) Q := by
  refine x_if (C := r = 0) i_26_32 rfl Iff.rfl rfl ⟨fun c1 => ?_, fun c1 => ?_⟩
  · replace h := h.1 c1
    refine x_aload_n i_26_48 rfl rfl ?_
    refine x_aload_n i_26_49 rfl rfl ?_
    refine x_getr i_26_50 f_26_18 g_1 rfl rfl ?_
    refine x_iload_n i_26_53 rfl rfl ?_
    obtain ⟨q2, h⟩ := h
    refine x_iaload (v := M 9 a2) i_26_54 g_9 (rfl) rfl q2 ?_
    refine x_callv (as := [.inl (M 9 a2)]) (rest := [.inl t1, .inr (.inl 10)]) i_26_55 k_26_42 rfl rfl rfl g_1 (Nat.le_of_ble_eq_true rfl) m_27 rfl h
  · replace h := h.2 c1
    refine x_aload_n i_26_35 rfl rfl ?_
    refine x_aload_n i_26_36 rfl rfl ?_
    refine x_getr i_26_37 f_26_15 g_1 rfl rfl ?_
    refine x_iload_n i_26_40 rfl rfl ?_
    obtain ⟨q3, h⟩ := h
    refine x_iaload (v := M 8 a2) i_26_41 g_8 (rfl) rfl q3 ?_
    refine x_callv (as := [.inl (M 8 a2)]) (rest := [.inl t1, .inr (.inl 10)]) i_26_42 k_26_42 rfl rfl rfl g_1 (Nat.le_of_ble_eq_true rfl) m_27 rfl h
/-! GateBench$Circuit.evaluate at 45 -/
theorem s_26_45 {L : Nat} {M : pm_M} {Q : pm_P} {a1 a2 r t1 : Int}
    (h : pm_X L (26, 58, [some (.inr (.inl 1)), some (.inl a1), some (.inl a2)], [.inl r, .inl t1, .inr (.inl 10)], M) Q) :
    pm_X L (26, 45, [some (.inr (.inl 1)), some (.inl a1), some (.inl a2)], [.inl r, .inl t1, .inr (.inl 10)], M) Q := by
  refine x_goto i_26_45 rfl ?_
  exact h
/-! GateBench$Circuit.evaluate at 58 -/
theorem s_26_58 {L : Nat} {M : pm_M} {Q : pm_P} {a1 a2 r t1 : Int}
    (h : ((0 ≤ t1 ∧ t1 < 2000) ∧ pm_bit r) ∧ (pm_R (a2 + 1)) ∧ pm_X L (26, 2, [some (.inr (.inl 1)), some (.inl a1), some (.inl (a2 + 1))], [], pm_set M 10 t1 r) Q) :
    pm_X L (26, 58, [some (.inr (.inl 1)), some (.inl a1), some (.inl a2)], [.inl r, .inl t1, .inr (.inl 10)], M) Q := by
  obtain ⟨q1, h⟩ := h
  refine x_bastore i_26_58 g_10 rfl q1 ?_
  obtain ⟨q2, h⟩ := h
  refine x_iinc i_26_59 rfl (by decide) rfl rfl q2 ?_
  refine x_goto i_26_62 rfl ?_
  exact h
/-! GateBench$Circuit.isTrue at 0 -/
theorem s_27_0 {L : Nat} {M : pm_M} {Q : pm_P} {a1 : Int}
    (h : (0 ≤ a1 / 2 ∧ a1 / 2 < 2000) ∧ ((¬ a1 % 2 = 0 → ((¬ M 10 (a1 / 2) = 0 → Q (.inl (some (.inl 0))) M) ∧ (¬ (¬ M 10 (a1 / 2) = 0) → Q (.inl (some (.inl 1))) M))) ∧ (¬ (¬ a1 % 2 = 0) → ((¬ M 10 (a1 / 2) = 1 → Q (.inl (some (.inl 0))) M) ∧ (¬ (¬ M 10 (a1 / 2) = 1) → Q (.inl (some (.inl 1))) M))))) :
    pm_X L (27, 0, [some (.inr (.inl 1)), some (.inl a1)], [], M) Q := by
  refine x_aload_n i_27_0 rfl rfl ?_
  refine x_getr i_27_1 f_27_21 g_1 rfl rfl ?_
  refine x_iload_n i_27_4 rfl rfl ?_
  refine x_calls (as := [.inl a1]) (rest := [.inr (.inl 10)]) i_27_5 k_27_46 rfl rfl rfl (Nat.le_of_ble_eq_true rfl) m_16 rfl ?_
  refine x_iload_n i_16_0 rfl rfl ?_
  refine x_iconst i_16_1 (by decide) rfl ?_
  refine x_ishr i_16_2 rfl ?_
  refine x_ireti i_16_3 r_16 ?_
  refine x_bki rfl ?_
  obtain ⟨q1, h⟩ := h
  refine x_baload (v := M 10 (a1 / 2)) i_27_8 g_10 (rfl) rfl q1 ?_
  refine x_iload_n i_27_9 rfl rfl ?_
  refine x_iconst i_27_10 (by decide) rfl ?_
  refine x_iand1 i_27_11 rfl ?_
  refine x_if (C := ¬ a1 % 2 = 0) i_27_12 rfl Iff.rfl rfl ⟨fun c2 => ?_, fun c2 => ?_⟩
  · replace h := h.1 c2
    refine x_iconst i_27_19 (by decide) rfl ?_
    refine x_icmp (C := ¬ M 10 (a1 / 2) = 0) i_27_20 rfl Iff.rfl rfl ⟨fun c3 => ?_, fun c3 => ?_⟩
    · replace h := h.1 c3
      refine x_iconst i_27_27 (by decide) rfl ?_
      exact x_iretz i_27_28 r_27 (by unfold pm_bit; decide) h
    · replace h := h.2 c3
      refine x_iconst i_27_23 (by decide) rfl ?_
      refine x_goto i_27_24 rfl ?_
      exact x_iretz i_27_28 r_27 (by unfold pm_bit; decide) h
  · replace h := h.2 c2
    refine x_iconst i_27_15 (by decide) rfl ?_
    refine x_goto i_27_16 rfl ?_
    refine x_icmp (C := ¬ M 10 (a1 / 2) = 1) i_27_20 rfl Iff.rfl rfl ⟨fun c4 => ?_, fun c4 => ?_⟩
    · replace h := h.1 c4
      refine x_iconst i_27_27 (by decide) rfl ?_
      exact x_iretz i_27_28 r_27 (by unfold pm_bit; decide) h
    · replace h := h.2 c4
      refine x_iconst i_27_23 (by decide) rfl ?_
      refine x_goto i_27_24 rfl ?_
      exact x_iretz i_27_28 r_27 (by unfold pm_bit; decide) h
/-! GateBench$Circuit.forgetAims at 0 -/
theorem s_28_0 {L : Nat} {M : pm_M} {Q : pm_P}
    (h : pm_X L (28, 2, [some (.inr (.inl 1)), some (.inl 0)], [], M) Q) :
    pm_X L (28, 0, [some (.inr (.inl 1)), none], [], M) Q := by
  refine x_iconst i_28_0 (by decide) rfl ?_
  refine x_istore_n i_28_1 (Nat.le_of_ble_eq_true rfl) rfl rfl ?_
  exact h
/-! GateBench$Circuit.forgetAims at 2 -/
theorem s_28_2 {L : Nat} {M : pm_M} {Q : pm_P} {a1 : Int}
    (h : ((M 1 6 ≤ a1 → Q (.inl none) M) ∧ (¬ (M 1 6 ≤ a1) → (0 ≤ a1 ∧ a1 < 2000) ∧ (pm_R (a1 + 1)) ∧ pm_X L (28, 2, [some (.inr (.inl 1)), some (.inl (a1 + 1))], [], pm_set M 11 a1 0) Q))) :
    pm_X L (28, 2, [some (.inr (.inl 1)), some (.inl a1)], [], M) Q := by
  refine x_iload_n i_28_2 rfl rfl ?_
  refine x_aload_n i_28_3 rfl rfl ?_
  refine x_geti (v := M 1 6) i_28_4 f_28_31 g_1 rfl (rfl) rfl ?_
  refine x_icmp (C := M 1 6 ≤ a1) i_28_7 rfl Iff.rfl rfl ⟨fun c1 => ?_, fun c1 => ?_⟩
  · replace h := h.1 c1
    exact x_ret i_28_23 r_28 h
  · replace h := h.2 c1
    refine x_aload_n i_28_10 rfl rfl ?_
    refine x_getr i_28_11 f_28_25 g_1 rfl rfl ?_
    refine x_iload_n i_28_14 rfl rfl ?_
    refine x_iconst i_28_15 (by decide) rfl ?_
    obtain ⟨q2, h⟩ := h
    refine x_bastore i_28_16 g_11 rfl ⟨q2, by unfold pm_bit; decide⟩ ?_
    obtain ⟨q3, h⟩ := h
    refine x_iinc i_28_17 rfl (by decide) rfl rfl q3 ?_
    refine x_goto i_28_20 rfl ?_
    exact h
/-! GateBench$Circuit.aimAt at 0 -/
theorem s_29_0 {L : Nat} {M : pm_M} {Q : pm_P} {a1 : Int}
    (h : (0 ≤ a1 ∧ a1 < 2000) ∧ Q (.inl none) (pm_set M 11 a1 1)) :
    pm_X L (29, 0, [some (.inr (.inl 1)), some (.inl a1)], [], M) Q := by
  refine x_aload_n i_29_0 rfl rfl ?_
  refine x_getr i_29_1 f_29_25 g_1 rfl rfl ?_
  refine x_iload_n i_29_4 rfl rfl ?_
  refine x_iconst i_29_5 (by decide) rfl ?_
  obtain ⟨q1, h⟩ := h
  refine x_bastore i_29_6 g_11 rfl ⟨q1, by unfold pm_bit; decide⟩ ?_
  exact x_ret i_29_7 r_29 h
/-! GateBench$Circuit.describeAims at 0 -/
theorem s_30_0 {L : Nat} {M : pm_M} {Q : pm_P}
    (h : (pm_R (M 1 6 - 1)) ∧ pm_X L (30, 7, [some (.inr (.inl 1)), some (.inr (.inl 2)), some (.inl (M 1 6 - 1))], [], M) Q) :
    pm_X L (30, 0, [some (.inr (.inl 1)), some (.inr (.inl 2)), none], [], M) Q := by
  refine x_aload_n i_30_0 rfl rfl ?_
  refine x_geti (v := M 1 6) i_30_1 f_30_31 g_1 rfl (rfl) rfl ?_
  refine x_iconst i_30_4 (by decide) rfl ?_
  obtain ⟨q1, h⟩ := h
  refine x_isub i_30_5 rfl q1 ?_
  refine x_istore_n i_30_6 (Nat.le_of_ble_eq_true rfl) rfl rfl ?_
  exact h
/-! GateBench$Circuit.describeAims at 7 -/
theorem s_30_7 {L : Nat} {M : pm_M} {Q : pm_P} {a2 : Int}
    (h : ((a2 ≤ 0 → Q (.inl none) M) ∧ (¬ (a2 ≤ 0) → (0 ≤ a2 ∧ a2 < 2000) ∧ ((M 11 a2 = 0 → pm_X L (30, 75, [some (.inr (.inl 1)), some (.inr (.inl 2)), some (.inl a2)], [], M) Q) ∧ (¬ (M 11 a2 = 0) → ((M 7 a2 = -1 → pm_X L (30, 75, [some (.inr (.inl 1)), some (.inr (.inl 2)), some (.inl a2)], [], M) Q) ∧ (¬ (M 7 a2 = -1) → (0 ≤ (M 7 a2) / 2 ∧ (M 7 a2) / 2 < 2000) ∧ (0 ≤ (M 8 a2) / 2 ∧ (M 8 a2) / 2 < 2000) ∧ (0 ≤ (M 9 a2) / 2 ∧ (M 9 a2) / 2 < 2000) ∧ pm_X L (31, 0, [some (.inr (.inl 1)), some (.inl a2), some (.inr (.inl 2)), none, none, none, none], [], pm_set (pm_set (pm_set M 11 ((M 7 a2) / 2) 1) 11 ((M 8 a2) / 2) 1) 11 ((M 9 a2) / 2) 1) (pm_back (pm_X L) 30 72 [some (.inr (.inl 1)), some (.inr (.inl 2)), some (.inl a2)] [] Q)))))))) :
    pm_X L (30, 7, [some (.inr (.inl 1)), some (.inr (.inl 2)), some (.inl a2)], [], M) Q := by
  refine x_iload_n i_30_7 rfl rfl ?_
  refine x_if (C := a2 ≤ 0) i_30_8 rfl Iff.rfl rfl ⟨fun c1 => ?_, fun c1 => ?_⟩
  · replace h := h.1 c1
    exact x_ret i_30_81 r_30 h
  · replace h := h.2 c1
    refine x_aload_n i_30_11 rfl rfl ?_
    refine x_getr i_30_12 f_30_25 g_1 rfl rfl ?_
    refine x_iload_n i_30_15 rfl rfl ?_
    obtain ⟨q2, h⟩ := h
    refine x_baload (v := M 11 a2) i_30_16 g_11 (rfl) rfl q2 ?_
    refine x_if (C := M 11 a2 = 0) i_30_17 rfl Iff.rfl rfl ⟨fun c3 => ?_, fun c3 => ?_⟩
    · replace h := h.1 c3
      exact h
    · replace h := h.2 c3
      refine x_aload_n i_30_20 rfl rfl ?_
      refine x_getr i_30_21 f_30_9 g_1 rfl rfl ?_
      refine x_iload_n i_30_24 rfl rfl ?_
      refine x_iaload (v := M 7 a2) i_30_25 g_7 (rfl) rfl q2 ?_
      refine x_iconst i_30_26 (by decide) rfl ?_
      refine x_icmp (C := M 7 a2 = -1) i_30_27 rfl Iff.rfl rfl ⟨fun c4 => ?_, fun c4 => ?_⟩
      · replace h := h.1 c4
        exact h
      · replace h := h.2 c4
        refine x_aload_n i_30_30 rfl rfl ?_
        refine x_aload_n i_30_31 rfl rfl ?_
        refine x_getr i_30_32 f_30_9 g_1 rfl rfl ?_
        refine x_iload_n i_30_35 rfl rfl ?_
        refine x_iaload (v := M 7 a2) i_30_36 g_7 (rfl) rfl q2 ?_
        refine x_calls (as := [.inl (M 7 a2)]) (rest := [.inr (.inl 1)]) i_30_37 k_30_46 rfl rfl rfl (Nat.le_of_ble_eq_true rfl) m_16 rfl ?_
        refine x_iload_n i_16_0 rfl rfl ?_
        refine x_iconst i_16_1 (by decide) rfl ?_
        refine x_ishr i_16_2 rfl ?_
        refine x_ireti i_16_3 r_16 ?_
        refine x_bki rfl ?_
        refine x_callv (as := [.inl ((M 7 a2) / 2)]) (rest := []) i_30_40 k_30_50 rfl rfl rfl g_1 (Nat.le_of_ble_eq_true rfl) m_29 rfl ?_
        refine x_aload_n i_29_0 rfl rfl ?_
        refine x_getr i_29_1 f_29_25 g_1 rfl rfl ?_
        refine x_iload_n i_29_4 rfl rfl ?_
        refine x_iconst i_29_5 (by decide) rfl ?_
        obtain ⟨q5, h⟩ := h
        refine x_bastore i_29_6 g_11 rfl ⟨q5, by unfold pm_bit; decide⟩ ?_
        refine x_ret i_29_7 r_29 ?_
        refine x_bkv rfl ?_
        refine x_aload_n i_30_43 rfl rfl ?_
        refine x_aload_n i_30_44 rfl rfl ?_
        refine x_getr i_30_45 f_30_15 g_1 rfl rfl ?_
        refine x_iload_n i_30_48 rfl rfl ?_
        refine x_iaload (v := M 8 a2) i_30_49 g_8 (pm_get_c (by decide) rfl) rfl q2 ?_
        refine x_calls (as := [.inl (M 8 a2)]) (rest := [.inr (.inl 1)]) i_30_50 k_30_46 rfl rfl rfl (Nat.le_of_ble_eq_true rfl) m_16 rfl ?_
        refine x_iload_n i_16_0 rfl rfl ?_
        refine x_iconst i_16_1 (by decide) rfl ?_
        refine x_ishr i_16_2 rfl ?_
        refine x_ireti i_16_3 r_16 ?_
        refine x_bki rfl ?_
        refine x_callv (as := [.inl ((M 8 a2) / 2)]) (rest := []) i_30_53 k_30_50 rfl rfl rfl g_1 (Nat.le_of_ble_eq_true rfl) m_29 rfl ?_
        refine x_aload_n i_29_0 rfl rfl ?_
        refine x_getr i_29_1 f_29_25 g_1 rfl rfl ?_
        refine x_iload_n i_29_4 rfl rfl ?_
        refine x_iconst i_29_5 (by decide) rfl ?_
        obtain ⟨q6, h⟩ := h
        refine x_bastore i_29_6 g_11 rfl ⟨q6, by unfold pm_bit; decide⟩ ?_
        refine x_ret i_29_7 r_29 ?_
        refine x_bkv rfl ?_
        refine x_aload_n i_30_56 rfl rfl ?_
        refine x_aload_n i_30_57 rfl rfl ?_
        refine x_getr i_30_58 f_30_18 g_1 rfl rfl ?_
        refine x_iload_n i_30_61 rfl rfl ?_
        refine x_iaload (v := M 9 a2) i_30_62 g_9 (pm_get_c (by decide) (pm_get_c (by decide) rfl)) rfl q2 ?_
        refine x_calls (as := [.inl (M 9 a2)]) (rest := [.inr (.inl 1)]) i_30_63 k_30_46 rfl rfl rfl (Nat.le_of_ble_eq_true rfl) m_16 rfl ?_
        refine x_iload_n i_16_0 rfl rfl ?_
        refine x_iconst i_16_1 (by decide) rfl ?_
        refine x_ishr i_16_2 rfl ?_
        refine x_ireti i_16_3 r_16 ?_
        refine x_bki rfl ?_
        refine x_callv (as := [.inl ((M 9 a2) / 2)]) (rest := []) i_30_66 k_30_50 rfl rfl rfl g_1 (Nat.le_of_ble_eq_true rfl) m_29 rfl ?_
        refine x_aload_n i_29_0 rfl rfl ?_
        refine x_getr i_29_1 f_29_25 g_1 rfl rfl ?_
        refine x_iload_n i_29_4 rfl rfl ?_
        refine x_iconst i_29_5 (by decide) rfl ?_
        obtain ⟨q7, h⟩ := h
        refine x_bastore i_29_6 g_11 rfl ⟨q7, by unfold pm_bit; decide⟩ ?_
        refine x_ret i_29_7 r_29 ?_
        refine x_bkv rfl ?_
        refine x_aload_n i_30_69 rfl rfl ?_
        refine x_iload_n i_30_70 rfl rfl ?_
        refine x_aload_n i_30_71 rfl rfl ?_
        refine x_callv (as := [.inl a2, .inr (.inl 2)]) (rest := []) i_30_72 k_30_54 rfl rfl rfl g_1 (Nat.le_of_ble_eq_true rfl) m_31 rfl h
/-! GateBench$Circuit.describeAims at 75 -/
theorem s_30_75 {L : Nat} {M : pm_M} {Q : pm_P} {a2 : Int}
    (h : (pm_R (a2 + (-1))) ∧ pm_X L (30, 7, [some (.inr (.inl 1)), some (.inr (.inl 2)), some (.inl (a2 + (-1)))], [], M) Q) :
    pm_X L (30, 75, [some (.inr (.inl 1)), some (.inr (.inl 2)), some (.inl a2)], [], M) Q := by
  obtain ⟨q1, h⟩ := h
  refine x_iinc i_30_75 rfl (by decide) rfl rfl q1 ?_
  refine x_goto i_30_78 rfl ?_
  exact h
/-! GateBench$Circuit.describeGate at 0 -/
theorem s_31_0 {L : Nat} {M : pm_M} {Q : pm_P} {a1 : Int}
    (h : (pm_R (2 * a1)) ∧ (0 ≤ a1 ∧ a1 < 2000) ∧ pm_X L (33, 0, [some (.inr (.inl 2)), some (.inl (pm_op (M 7 a1))), some (.inl (pm_op (M 8 a1))), some (.inl (2 * a1))], [], M) (pm_back (pm_X L) 31 41 [some (.inr (.inl 1)), some (.inl a1), some (.inr (.inl 2)), some (.inl (2 * a1)), some (.inl (M 7 a1)), some (.inl (M 8 a1)), some (.inl (M 9 a1))] [] Q)) :
    pm_X L (31, 0, [some (.inr (.inl 1)), some (.inl a1), some (.inr (.inl 2)), none, none, none, none], [], M) Q := by
  refine x_iload_n i_31_0 rfl rfl ?_
  refine x_calls (as := [.inl a1]) (rest := []) i_31_1 k_31_58 rfl rfl rfl (Nat.le_of_ble_eq_true rfl) m_14 rfl ?_
  refine x_iconst i_14_0 (by decide) rfl ?_
  refine x_iload_n i_14_1 rfl rfl ?_
  obtain ⟨q1, h⟩ := h
  refine x_imul i_14_2 rfl q1 ?_
  refine x_ireti i_14_3 r_14 ?_
  refine x_bki rfl ?_
  refine x_istore_n i_31_4 (Nat.le_of_ble_eq_true rfl) rfl rfl ?_
  refine x_aload_n i_31_5 rfl rfl ?_
  refine x_getr i_31_6 f_31_9 g_1 rfl rfl ?_
  refine x_iload_n i_31_9 rfl rfl ?_
  obtain ⟨q2, h⟩ := h
  refine x_iaload (v := M 7 a1) i_31_10 g_7 (rfl) rfl q2 ?_
  refine x_istore i_31_11 (Nat.le_of_ble_eq_true rfl) rfl rfl ?_
  refine x_aload_n i_31_13 rfl rfl ?_
  refine x_getr i_31_14 f_31_15 g_1 rfl rfl ?_
  refine x_iload_n i_31_17 rfl rfl ?_
  refine x_iaload (v := M 8 a1) i_31_18 g_8 (rfl) rfl q2 ?_
  refine x_istore i_31_19 (Nat.le_of_ble_eq_true rfl) rfl rfl ?_
  refine x_aload_n i_31_21 rfl rfl ?_
  refine x_getr i_31_22 f_31_18 g_1 rfl rfl ?_
  refine x_iload_n i_31_25 rfl rfl ?_
  refine x_iaload (v := M 9 a1) i_31_26 g_9 (rfl) rfl q2 ?_
  refine x_istore i_31_27 (Nat.le_of_ble_eq_true rfl) rfl rfl ?_
  refine x_aload_n i_31_29 rfl rfl ?_
  refine x_iload i_31_30 rfl rfl ?_
  refine x_calls (as := [.inl (M 7 a1)]) (rest := [.inr (.inl 2)]) i_31_32 k_31_61 rfl rfl rfl (Nat.le_of_ble_eq_true rfl) m_15 rfl ?_
  refine x_iload_n i_15_0 rfl rfl ?_
  refine x_iconst i_15_1 (by decide) rfl ?_
  refine x_ixor i_15_2 rfl ?_
  refine x_ireti i_15_3 r_15 ?_
  refine x_bki rfl ?_
  refine x_iload i_31_35 rfl rfl ?_
  refine x_calls (as := [.inl (M 8 a1)]) (rest := [.inl (pm_op (M 7 a1)), .inr (.inl 2)]) i_31_37 k_31_61 rfl rfl rfl (Nat.le_of_ble_eq_true rfl) m_15 rfl ?_
  refine x_iload_n i_15_0 rfl rfl ?_
  refine x_iconst i_15_1 (by decide) rfl ?_
  refine x_ixor i_15_2 rfl ?_
  refine x_ireti i_15_3 r_15 ?_
  refine x_bki rfl ?_
  refine x_iload_n i_31_40 rfl rfl ?_
  refine x_callv (as := [.inl (pm_op (M 7 a1)), .inl (pm_op (M 8 a1)), .inl (2 * a1)]) (rest := []) i_31_41 k_31_64 rfl rfl rfl g_2 (Nat.le_of_ble_eq_true rfl) m_33 rfl h
/-! GateBench$Circuit.describeGate at 44 -/
theorem s_31_44 {L : Nat} {M : pm_M} {Q : pm_P} {a1 a3 a4 a5 a6 : Int}
    (h : pm_X L (33, 0, [some (.inr (.inl 2)), some (.inl (pm_op a4)), some (.inl a5), some (.inl (pm_op a3))], [], M) (pm_back (pm_X L) 31 56 [some (.inr (.inl 1)), some (.inl a1), some (.inr (.inl 2)), some (.inl a3), some (.inl a4), some (.inl a5), some (.inl a6)] [] Q)) :
    pm_X L (31, 44, [some (.inr (.inl 1)), some (.inl a1), some (.inr (.inl 2)), some (.inl a3), some (.inl a4), some (.inl a5), some (.inl a6)], [], M) Q := by
  refine x_aload_n i_31_44 rfl rfl ?_
  refine x_iload i_31_45 rfl rfl ?_
  refine x_calls (as := [.inl a4]) (rest := [.inr (.inl 2)]) i_31_47 k_31_61 rfl rfl rfl (Nat.le_of_ble_eq_true rfl) m_15 rfl ?_
  refine x_iload_n i_15_0 rfl rfl ?_
  refine x_iconst i_15_1 (by decide) rfl ?_
  refine x_ixor i_15_2 rfl ?_
  refine x_ireti i_15_3 r_15 ?_
  refine x_bki rfl ?_
  refine x_iload i_31_50 rfl rfl ?_
  refine x_iload_n i_31_52 rfl rfl ?_
  refine x_calls (as := [.inl a3]) (rest := [.inl a5, .inl (pm_op a4), .inr (.inl 2)]) i_31_53 k_31_61 rfl rfl rfl (Nat.le_of_ble_eq_true rfl) m_15 rfl ?_
  refine x_iload_n i_15_0 rfl rfl ?_
  refine x_iconst i_15_1 (by decide) rfl ?_
  refine x_ixor i_15_2 rfl ?_
  refine x_ireti i_15_3 r_15 ?_
  refine x_bki rfl ?_
  refine x_callv (as := [.inl (pm_op a4), .inl a5, .inl (pm_op a3)]) (rest := []) i_31_56 k_31_64 rfl rfl rfl g_2 (Nat.le_of_ble_eq_true rfl) m_33 rfl h
/-! GateBench$Circuit.describeGate at 59 -/
theorem s_31_59 {L : Nat} {M : pm_M} {Q : pm_P} {a1 a3 a4 a5 a6 : Int}
    (h : pm_X L (33, 0, [some (.inr (.inl 2)), some (.inl a4), some (.inl (pm_op a6)), some (.inl a3)], [], M) (pm_back (pm_X L) 31 68 [some (.inr (.inl 1)), some (.inl a1), some (.inr (.inl 2)), some (.inl a3), some (.inl a4), some (.inl a5), some (.inl a6)] [] Q)) :
    pm_X L (31, 59, [some (.inr (.inl 1)), some (.inl a1), some (.inr (.inl 2)), some (.inl a3), some (.inl a4), some (.inl a5), some (.inl a6)], [], M) Q := by
  refine x_aload_n i_31_59 rfl rfl ?_
  refine x_iload i_31_60 rfl rfl ?_
  refine x_iload i_31_62 rfl rfl ?_
  refine x_calls (as := [.inl a6]) (rest := [.inl a4, .inr (.inl 2)]) i_31_64 k_31_61 rfl rfl rfl (Nat.le_of_ble_eq_true rfl) m_15 rfl ?_
  refine x_iload_n i_15_0 rfl rfl ?_
  refine x_iconst i_15_1 (by decide) rfl ?_
  refine x_ixor i_15_2 rfl ?_
  refine x_ireti i_15_3 r_15 ?_
  refine x_bki rfl ?_
  refine x_iload_n i_31_67 rfl rfl ?_
  refine x_callv (as := [.inl a4, .inl (pm_op a6), .inl a3]) (rest := []) i_31_68 k_31_64 rfl rfl rfl g_2 (Nat.le_of_ble_eq_true rfl) m_33 rfl h
/-! GateBench$Circuit.describeGate at 71 -/
theorem s_31_71 {L : Nat} {M : pm_M} {Q : pm_P} {a1 a3 a4 a5 a6 : Int}
    (h : pm_X L (33, 0, [some (.inr (.inl 2)), some (.inl a4), some (.inl a6), some (.inl (pm_op a3))], [], M) (pm_back (pm_X L) 31 80 [some (.inr (.inl 1)), some (.inl a1), some (.inr (.inl 2)), some (.inl a3), some (.inl a4), some (.inl a5), some (.inl a6)] [] Q)) :
    pm_X L (31, 71, [some (.inr (.inl 1)), some (.inl a1), some (.inr (.inl 2)), some (.inl a3), some (.inl a4), some (.inl a5), some (.inl a6)], [], M) Q := by
  refine x_aload_n i_31_71 rfl rfl ?_
  refine x_iload i_31_72 rfl rfl ?_
  refine x_iload i_31_74 rfl rfl ?_
  refine x_iload_n i_31_76 rfl rfl ?_
  refine x_calls (as := [.inl a3]) (rest := [.inl a6, .inl a4, .inr (.inl 2)]) i_31_77 k_31_61 rfl rfl rfl (Nat.le_of_ble_eq_true rfl) m_15 rfl ?_
  refine x_iload_n i_15_0 rfl rfl ?_
  refine x_iconst i_15_1 (by decide) rfl ?_
  refine x_ixor i_15_2 rfl ?_
  refine x_ireti i_15_3 r_15 ?_
  refine x_bki rfl ?_
  refine x_callv (as := [.inl a4, .inl a6, .inl (pm_op a3)]) (rest := []) i_31_80 k_31_64 rfl rfl rfl g_2 (Nat.le_of_ble_eq_true rfl) m_33 rfl h
/-! GateBench$Circuit.describeGate at 83 -/
theorem s_31_83 {L : Nat} {M : pm_M} {Q : pm_P} {a1 a3 a4 a5 a6 : Int}
    (h : pm_X L (33, 0, [some (.inr (.inl 2)), some (.inl (pm_op a5)), some (.inl (pm_op a6)), some (.inl a3)], [], M) (pm_back (pm_X L) 31 95 [some (.inr (.inl 1)), some (.inl a1), some (.inr (.inl 2)), some (.inl a3), some (.inl a4), some (.inl a5), some (.inl a6)] [] Q)) :
    pm_X L (31, 83, [some (.inr (.inl 1)), some (.inl a1), some (.inr (.inl 2)), some (.inl a3), some (.inl a4), some (.inl a5), some (.inl a6)], [], M) Q := by
  refine x_aload_n i_31_83 rfl rfl ?_
  refine x_iload i_31_84 rfl rfl ?_
  refine x_calls (as := [.inl a5]) (rest := [.inr (.inl 2)]) i_31_86 k_31_61 rfl rfl rfl (Nat.le_of_ble_eq_true rfl) m_15 rfl ?_
  refine x_iload_n i_15_0 rfl rfl ?_
  refine x_iconst i_15_1 (by decide) rfl ?_
  refine x_ixor i_15_2 rfl ?_
  refine x_ireti i_15_3 r_15 ?_
  refine x_bki rfl ?_
  refine x_iload i_31_89 rfl rfl ?_
  refine x_calls (as := [.inl a6]) (rest := [.inl (pm_op a5), .inr (.inl 2)]) i_31_91 k_31_61 rfl rfl rfl (Nat.le_of_ble_eq_true rfl) m_15 rfl ?_
  refine x_iload_n i_15_0 rfl rfl ?_
  refine x_iconst i_15_1 (by decide) rfl ?_
  refine x_ixor i_15_2 rfl ?_
  refine x_ireti i_15_3 r_15 ?_
  refine x_bki rfl ?_
  refine x_iload_n i_31_94 rfl rfl ?_
  refine x_callv (as := [.inl (pm_op a5), .inl (pm_op a6), .inl a3]) (rest := []) i_31_95 k_31_64 rfl rfl rfl g_2 (Nat.le_of_ble_eq_true rfl) m_33 rfl h
/-! GateBench$Circuit.describeGate at 98 -/
theorem s_31_98 {L : Nat} {M : pm_M} {Q : pm_P} {a1 a3 a4 a5 a6 : Int}
    (h : pm_X L (33, 0, [some (.inr (.inl 2)), some (.inl a5), some (.inl a6), some (.inl (pm_op a3))], [], M) (pm_back (pm_X L) 31 107 [some (.inr (.inl 1)), some (.inl a1), some (.inr (.inl 2)), some (.inl a3), some (.inl a4), some (.inl a5), some (.inl a6)] [] Q)) :
    pm_X L (31, 98, [some (.inr (.inl 1)), some (.inl a1), some (.inr (.inl 2)), some (.inl a3), some (.inl a4), some (.inl a5), some (.inl a6)], [], M) Q := by
  refine x_aload_n i_31_98 rfl rfl ?_
  refine x_iload i_31_99 rfl rfl ?_
  refine x_iload i_31_101 rfl rfl ?_
  refine x_iload_n i_31_103 rfl rfl ?_
  refine x_calls (as := [.inl a3]) (rest := [.inl a6, .inl a5, .inr (.inl 2)]) i_31_104 k_31_61 rfl rfl rfl (Nat.le_of_ble_eq_true rfl) m_15 rfl ?_
  refine x_iload_n i_15_0 rfl rfl ?_
  refine x_iconst i_15_1 (by decide) rfl ?_
  refine x_ixor i_15_2 rfl ?_
  refine x_ireti i_15_3 r_15 ?_
  refine x_bki rfl ?_
  refine x_callv (as := [.inl a5, .inl a6, .inl (pm_op a3)]) (rest := []) i_31_107 k_31_64 rfl rfl rfl g_2 (Nat.le_of_ble_eq_true rfl) m_33 rfl h
/-! GateBench$Circuit.describeGate at 110 -/
theorem s_31_110 {L : Nat} {M : pm_M} {Q : pm_P} {a1 a3 a4 a5 a6 : Int}
    (h : Q (.inl none) M) :
    pm_X L (31, 110, [some (.inr (.inl 1)), some (.inl a1), some (.inr (.inl 2)), some (.inl a3), some (.inl a4), some (.inl a5), some (.inl a6)], [], M) Q := by
  exact x_ret i_31_110 r_31 h
/-! GateBench$Clauses.removeAll at 0 -/
theorem s_32_0 {L : Nat} {M : pm_M} {Q : pm_P}
    (h : Q (.inl none) (pm_set (pm_set M 2 2 0) 2 3 0)) :
    pm_X L (32, 0, [some (.inr (.inl 2))], [], M) Q := by
  refine x_aload_n i_32_0 rfl rfl ?_
  refine x_iconst i_32_1 (by decide) rfl ?_
  refine x_puti i_32_2 f_32_19 g_2 rfl rfl ?_
  refine x_aload_n i_32_5 rfl rfl ?_
  refine x_iconst i_32_6 (by decide) rfl ?_
  refine x_puti i_32_7 f_32_23 g_2 rfl rfl ?_
  exact x_ret i_32_10 r_32 h
end
section
/-! GateBench$Clauses.add at 0 -/
theorem s_33_0 {L : Nat} {M : pm_M} {Q : pm_P} {a1 a2 a3 : Int}
    (h : ((a1 = 1 → Q (.inl none) M) ∧ (¬ (a1 = 1) → ((a2 = 1 → Q (.inl none) M) ∧ (¬ (a2 = 1) → ((¬ a3 = 1 → ((a1 = pm_op a2 → Q (.inl none) M) ∧ (¬ (a1 = pm_op a2) → ((a1 = pm_op a3 → Q (.inl none) M) ∧ (¬ (a1 = pm_op a3) → ((¬ a2 = pm_op a3 → pm_X L (33, 41, [some (.inr (.inl 2)), some (.inl a1), some (.inl a2), some (.inl a3)], [], M) Q) ∧ (¬ (¬ a2 = pm_op a3) → Q (.inl none) M))))))) ∧ (¬ (¬ a3 = 1) → Q (.inl none) M))))))) :
    pm_X L (33, 0, [some (.inr (.inl 2)), some (.inl a1), some (.inl a2), some (.inl a3)], [], M) Q := by
  refine x_iload_n i_33_0 rfl rfl ?_
  refine x_iconst i_33_1 (by decide) rfl ?_
  refine x_icmp (C := a1 = 1) i_33_2 rfl Iff.rfl rfl ⟨fun c1 => ?_, fun c1 => ?_⟩
  · replace h := h.1 c1
    exact x_ret i_33_15 r_33 h
  · replace h := h.2 c1
    refine x_iload_n i_33_5 rfl rfl ?_
    refine x_iconst i_33_6 (by decide) rfl ?_
    refine x_icmp (C := a2 = 1) i_33_7 rfl Iff.rfl rfl ⟨fun c2 => ?_, fun c2 => ?_⟩
    · replace h := h.1 c2
      exact x_ret i_33_15 r_33 h
    · replace h := h.2 c2
      refine x_iload_n i_33_10 rfl rfl ?_
      refine x_iconst i_33_11 (by decide) rfl ?_
      refine x_icmp (C := ¬ a3 = 1) i_33_12 rfl Iff.rfl rfl ⟨fun c3 => ?_, fun c3 => ?_⟩
      · replace h := h.1 c3
        refine x_iload_n i_33_16 rfl rfl ?_
        refine x_iload_n i_33_17 rfl rfl ?_
        refine x_calls (as := [.inl a2]) (rest := [.inl a1]) i_33_18 k_33_26 rfl rfl rfl (Nat.le_of_ble_eq_true rfl) m_15 rfl ?_
        refine x_iload_n i_15_0 rfl rfl ?_
        refine x_iconst i_15_1 (by decide) rfl ?_
        refine x_ixor i_15_2 rfl ?_
        refine x_ireti i_15_3 r_15 ?_
        refine x_bki rfl ?_
        refine x_icmp (C := a1 = pm_op a2) i_33_21 rfl Iff.rfl rfl ⟨fun c4 => ?_, fun c4 => ?_⟩
        · replace h := h.1 c4
          exact x_ret i_33_40 r_33 h
        · replace h := h.2 c4
          refine x_iload_n i_33_24 rfl rfl ?_
          refine x_iload_n i_33_25 rfl rfl ?_
          refine x_calls (as := [.inl a3]) (rest := [.inl a1]) i_33_26 k_33_26 rfl rfl rfl (Nat.le_of_ble_eq_true rfl) m_15 rfl ?_
          refine x_iload_n i_15_0 rfl rfl ?_
          refine x_iconst i_15_1 (by decide) rfl ?_
          refine x_ixor i_15_2 rfl ?_
          refine x_ireti i_15_3 r_15 ?_
          refine x_bki rfl ?_
          refine x_icmp (C := a1 = pm_op a3) i_33_29 rfl Iff.rfl rfl ⟨fun c5 => ?_, fun c5 => ?_⟩
          · replace h := h.1 c5
            exact x_ret i_33_40 r_33 h
          · replace h := h.2 c5
            refine x_iload_n i_33_32 rfl rfl ?_
            refine x_iload_n i_33_33 rfl rfl ?_
            refine x_calls (as := [.inl a3]) (rest := [.inl a2]) i_33_34 k_33_26 rfl rfl rfl (Nat.le_of_ble_eq_true rfl) m_15 rfl ?_
            refine x_iload_n i_15_0 rfl rfl ?_
            refine x_iconst i_15_1 (by decide) rfl ?_
            refine x_ixor i_15_2 rfl ?_
            refine x_ireti i_15_3 r_15 ?_
            refine x_bki rfl ?_
            refine x_icmp (C := ¬ a2 = pm_op a3) i_33_37 rfl Iff.rfl rfl ⟨fun c6 => ?_, fun c6 => ?_⟩
            · replace h := h.1 c6
              exact h
            · replace h := h.2 c6
              exact x_ret i_33_40 r_33 h
      · replace h := h.2 c3
        exact x_ret i_33_15 r_33 h
/-! GateBench$Clauses.add at 41 -/
theorem s_33_41 {L : Nat} {M : pm_M} {Q : pm_P} {a1 a2 a3 : Int}
    (h : ((a1 = 0 → pm_X L (33, 50, [some (.inr (.inl 2)), some (.inl a1), some (.inl a2), some (.inl a3)], [], M) Q) ∧ (¬ (a1 = 0) → (0 ≤ M 2 3 ∧ M 2 3 < 85212) ∧ (pm_R (M 2 3 + 1)) ∧ pm_X L (33, 50, [some (.inr (.inl 2)), some (.inl a1), some (.inl a2), some (.inl a3)], [], pm_set (pm_set M 13 (M 2 3) a1) 2 3 (M 2 3 + 1)) Q))) :
    pm_X L (33, 41, [some (.inr (.inl 2)), some (.inl a1), some (.inl a2), some (.inl a3)], [], M) Q := by
  refine x_iload_n i_33_41 rfl rfl ?_
  refine x_if (C := a1 = 0) i_33_42 rfl Iff.rfl rfl ⟨fun c1 => ?_, fun c1 => ?_⟩
  · replace h := h.1 c1
    exact h
  · replace h := h.2 c1
    refine x_aload_n i_33_45 rfl rfl ?_
    refine x_iload_n i_33_46 rfl rfl ?_
    refine x_callv (as := [.inl a1]) (rest := []) i_33_47 k_33_30 rfl rfl rfl g_2 (Nat.le_of_ble_eq_true rfl) m_34 rfl ?_
    refine x_aload_n i_34_0 rfl rfl ?_
    refine x_getr i_34_1 f_34_10 g_2 rfl rfl ?_
    refine x_aload_n i_34_4 rfl rfl ?_
    refine x_geti (v := M 2 3) i_34_5 f_34_23 g_2 rfl (rfl) rfl ?_
    refine x_iload_n i_34_8 rfl rfl ?_
    obtain ⟨q2, h⟩ := h
    refine x_iastore i_34_9 g_13 rfl q2 ?_
    refine x_aload_n i_34_10 rfl rfl ?_
    refine x_dup i_34_11 rfl rfl ?_
    refine x_geti (v := M 2 3) i_34_12 f_34_23 g_2 rfl (pm_get_c (by decide) rfl) rfl ?_
    refine x_iconst i_34_15 (by decide) rfl ?_
    obtain ⟨q3, h⟩ := h
    refine x_iadd i_34_16 rfl q3 ?_
    refine x_puti i_34_17 f_34_23 g_2 rfl rfl ?_
    refine x_ret i_34_20 r_34 ?_
    refine x_bkv rfl ?_
    exact h
/-! GateBench$Clauses.add at 50 -/
theorem s_33_50 {L : Nat} {M : pm_M} {Q : pm_P} {a1 a2 a3 : Int}
    (h : ((a2 = 0 → pm_X L (33, 64, [some (.inr (.inl 2)), some (.inl a1), some (.inl a2), some (.inl a3)], [], M) Q) ∧ (¬ (a2 = 0) → ((a2 = a1 → pm_X L (33, 64, [some (.inr (.inl 2)), some (.inl a1), some (.inl a2), some (.inl a3)], [], M) Q) ∧ (¬ (a2 = a1) → (0 ≤ M 2 3 ∧ M 2 3 < 85212) ∧ (pm_R (M 2 3 + 1)) ∧ pm_X L (33, 64, [some (.inr (.inl 2)), some (.inl a1), some (.inl a2), some (.inl a3)], [], pm_set (pm_set M 13 (M 2 3) a2) 2 3 (M 2 3 + 1)) Q))))) :
    pm_X L (33, 50, [some (.inr (.inl 2)), some (.inl a1), some (.inl a2), some (.inl a3)], [], M) Q := by
  refine x_iload_n i_33_50 rfl rfl ?_
  refine x_if (C := a2 = 0) i_33_51 rfl Iff.rfl rfl ⟨fun c1 => ?_, fun c1 => ?_⟩
  · replace h := h.1 c1
    exact h
  · replace h := h.2 c1
    refine x_iload_n i_33_54 rfl rfl ?_
    refine x_iload_n i_33_55 rfl rfl ?_
    refine x_icmp (C := a2 = a1) i_33_56 rfl Iff.rfl rfl ⟨fun c2 => ?_, fun c2 => ?_⟩
    · replace h := h.1 c2
      exact h
    · replace h := h.2 c2
      refine x_aload_n i_33_59 rfl rfl ?_
      refine x_iload_n i_33_60 rfl rfl ?_
      refine x_callv (as := [.inl a2]) (rest := []) i_33_61 k_33_30 rfl rfl rfl g_2 (Nat.le_of_ble_eq_true rfl) m_34 rfl ?_
      refine x_aload_n i_34_0 rfl rfl ?_
      refine x_getr i_34_1 f_34_10 g_2 rfl rfl ?_
      refine x_aload_n i_34_4 rfl rfl ?_
      refine x_geti (v := M 2 3) i_34_5 f_34_23 g_2 rfl (rfl) rfl ?_
      refine x_iload_n i_34_8 rfl rfl ?_
      obtain ⟨q3, h⟩ := h
      refine x_iastore i_34_9 g_13 rfl q3 ?_
      refine x_aload_n i_34_10 rfl rfl ?_
      refine x_dup i_34_11 rfl rfl ?_
      refine x_geti (v := M 2 3) i_34_12 f_34_23 g_2 rfl (pm_get_c (by decide) rfl) rfl ?_
      refine x_iconst i_34_15 (by decide) rfl ?_
      obtain ⟨q4, h⟩ := h
      refine x_iadd i_34_16 rfl q4 ?_
      refine x_puti i_34_17 f_34_23 g_2 rfl rfl ?_
      refine x_ret i_34_20 r_34 ?_
      refine x_bkv rfl ?_
      exact h
/-! GateBench$Clauses.add at 64 -/
theorem s_33_64 {L : Nat} {M : pm_M} {Q : pm_P} {a1 a2 a3 : Int}
    (h : ((a3 = 0 → pm_X L (33, 83, [some (.inr (.inl 2)), some (.inl a1), some (.inl a2), some (.inl a3)], [], M) Q) ∧ (¬ (a3 = 0) → ((a3 = a1 → pm_X L (33, 83, [some (.inr (.inl 2)), some (.inl a1), some (.inl a2), some (.inl a3)], [], M) Q) ∧ (¬ (a3 = a1) → ((a3 = a2 → pm_X L (33, 83, [some (.inr (.inl 2)), some (.inl a1), some (.inl a2), some (.inl a3)], [], M) Q) ∧ (¬ (a3 = a2) → (0 ≤ M 2 3 ∧ M 2 3 < 85212) ∧ (pm_R (M 2 3 + 1)) ∧ pm_X L (33, 83, [some (.inr (.inl 2)), some (.inl a1), some (.inl a2), some (.inl a3)], [], pm_set (pm_set M 13 (M 2 3) a3) 2 3 (M 2 3 + 1)) Q))))))) :
    pm_X L (33, 64, [some (.inr (.inl 2)), some (.inl a1), some (.inl a2), some (.inl a3)], [], M) Q := by
  refine x_iload_n i_33_64 rfl rfl ?_
  refine x_if (C := a3 = 0) i_33_65 rfl Iff.rfl rfl ⟨fun c1 => ?_, fun c1 => ?_⟩
  · replace h := h.1 c1
    exact h
  · replace h := h.2 c1
    refine x_iload_n i_33_68 rfl rfl ?_
    refine x_iload_n i_33_69 rfl rfl ?_
    refine x_icmp (C := a3 = a1) i_33_70 rfl Iff.rfl rfl ⟨fun c2 => ?_, fun c2 => ?_⟩
    · replace h := h.1 c2
      exact h
    · replace h := h.2 c2
      refine x_iload_n i_33_73 rfl rfl ?_
      refine x_iload_n i_33_74 rfl rfl ?_
      refine x_icmp (C := a3 = a2) i_33_75 rfl Iff.rfl rfl ⟨fun c3 => ?_, fun c3 => ?_⟩
      · replace h := h.1 c3
        exact h
      · replace h := h.2 c3
        refine x_aload_n i_33_78 rfl rfl ?_
        refine x_iload_n i_33_79 rfl rfl ?_
        refine x_callv (as := [.inl a3]) (rest := []) i_33_80 k_33_30 rfl rfl rfl g_2 (Nat.le_of_ble_eq_true rfl) m_34 rfl ?_
        refine x_aload_n i_34_0 rfl rfl ?_
        refine x_getr i_34_1 f_34_10 g_2 rfl rfl ?_
        refine x_aload_n i_34_4 rfl rfl ?_
        refine x_geti (v := M 2 3) i_34_5 f_34_23 g_2 rfl (rfl) rfl ?_
        refine x_iload_n i_34_8 rfl rfl ?_
        obtain ⟨q4, h⟩ := h
        refine x_iastore i_34_9 g_13 rfl q4 ?_
        refine x_aload_n i_34_10 rfl rfl ?_
        refine x_dup i_34_11 rfl rfl ?_
        refine x_geti (v := M 2 3) i_34_12 f_34_23 g_2 rfl (pm_get_c (by decide) rfl) rfl ?_
        refine x_iconst i_34_15 (by decide) rfl ?_
        obtain ⟨q5, h⟩ := h
        refine x_iadd i_34_16 rfl q5 ?_
        refine x_puti i_34_17 f_34_23 g_2 rfl rfl ?_
        refine x_ret i_34_20 r_34 ?_
        refine x_bkv rfl ?_
        exact h
/-! GateBench$Clauses.add at 83 -/
theorem s_33_83 {L : Nat} {M : pm_M} {Q : pm_P} {a1 a2 a3 : Int}
    (h : (pm_R (M 2 2 + 1)) ∧ (0 ≤ M 2 2 + 1 ∧ M 2 2 + 1 < 16117) ∧ Q (.inl none) (pm_set (pm_set M 2 2 (M 2 2 + 1)) 14 (M 2 2 + 1) (M 2 3))) :
    pm_X L (33, 83, [some (.inr (.inl 2)), some (.inl a1), some (.inl a2), some (.inl a3)], [], M) Q := by
  refine x_aload_n i_33_83 rfl rfl ?_
  refine x_callv (as := []) (rest := []) i_33_84 k_33_34 rfl rfl rfl g_2 (Nat.le_of_ble_eq_true rfl) m_35 rfl ?_
  refine x_aload_n i_35_0 rfl rfl ?_
  refine x_geti (v := M 2 2) i_35_1 f_35_19 g_2 rfl (rfl) rfl ?_
  refine x_istore_n i_35_4 (Nat.le_of_ble_eq_true rfl) rfl rfl ?_
  refine x_aload_n i_35_5 rfl rfl ?_
  refine x_dup i_35_6 rfl rfl ?_
  refine x_geti (v := M 2 2) i_35_7 f_35_19 g_2 rfl (rfl) rfl ?_
  refine x_iconst i_35_10 (by decide) rfl ?_
  obtain ⟨q1, h⟩ := h
  refine x_iadd i_35_11 rfl q1 ?_
  refine x_puti i_35_12 f_35_19 g_2 rfl rfl ?_
  refine x_aload_n i_35_15 rfl rfl ?_
  refine x_getr i_35_16 f_35_16 g_2 rfl rfl ?_
  refine x_aload_n i_35_19 rfl rfl ?_
  refine x_geti (v := M 2 2 + 1) i_35_20 f_35_19 g_2 rfl (pm_get_e) rfl ?_
  refine x_aload_n i_35_23 rfl rfl ?_
  refine x_geti (v := M 2 3) i_35_24 f_35_23 g_2 rfl (pm_get_j (by decide) rfl) rfl ?_
  obtain ⟨q2, h⟩ := h
  refine x_iastore i_35_27 g_14 rfl q2 ?_
  refine x_iload_n i_35_28 rfl rfl ?_
  refine x_ireti i_35_29 r_35 ?_
  refine x_bki rfl ?_
  refine x_pop i_33_87 rfl rfl ?_
  exact x_ret i_33_88 r_33 h
/-! GateBench$Clauses.append at 0 -/
theorem s_34_0 {L : Nat} {M : pm_M} {Q : pm_P} {a1 : Int}
    (h : (0 ≤ M 2 3 ∧ M 2 3 < 85212) ∧ (pm_R (M 2 3 + 1)) ∧ Q (.inl none) (pm_set (pm_set M 13 (M 2 3) a1) 2 3 (M 2 3 + 1))) :
    pm_X L (34, 0, [some (.inr (.inl 2)), some (.inl a1)], [], M) Q := by
  refine x_aload_n i_34_0 rfl rfl ?_
  refine x_getr i_34_1 f_34_10 g_2 rfl rfl ?_
  refine x_aload_n i_34_4 rfl rfl ?_
  refine x_geti (v := M 2 3) i_34_5 f_34_23 g_2 rfl (rfl) rfl ?_
  refine x_iload_n i_34_8 rfl rfl ?_
  obtain ⟨q1, h⟩ := h
  refine x_iastore i_34_9 g_13 rfl q1 ?_
  refine x_aload_n i_34_10 rfl rfl ?_
  refine x_dup i_34_11 rfl rfl ?_
  refine x_geti (v := M 2 3) i_34_12 f_34_23 g_2 rfl (pm_get_c (by decide) rfl) rfl ?_
  refine x_iconst i_34_15 (by decide) rfl ?_
  obtain ⟨q2, h⟩ := h
  refine x_iadd i_34_16 rfl q2 ?_
  refine x_puti i_34_17 f_34_23 g_2 rfl rfl ?_
  exact x_ret i_34_20 r_34 h
/-! GateBench$Clauses.close at 0 -/
theorem s_35_0 {L : Nat} {M : pm_M} {Q : pm_P}
    (h : (pm_R (M 2 2 + 1)) ∧ (0 ≤ M 2 2 + 1 ∧ M 2 2 + 1 < 16117) ∧ Q (.inl (some (.inl (M 2 2)))) (pm_set (pm_set M 2 2 (M 2 2 + 1)) 14 (M 2 2 + 1) (M 2 3))) :
    pm_X L (35, 0, [some (.inr (.inl 2)), none], [], M) Q := by
  refine x_aload_n i_35_0 rfl rfl ?_
  refine x_geti (v := M 2 2) i_35_1 f_35_19 g_2 rfl (rfl) rfl ?_
  refine x_istore_n i_35_4 (Nat.le_of_ble_eq_true rfl) rfl rfl ?_
  refine x_aload_n i_35_5 rfl rfl ?_
  refine x_dup i_35_6 rfl rfl ?_
  refine x_geti (v := M 2 2) i_35_7 f_35_19 g_2 rfl (rfl) rfl ?_
  refine x_iconst i_35_10 (by decide) rfl ?_
  obtain ⟨q1, h⟩ := h
  refine x_iadd i_35_11 rfl q1 ?_
  refine x_puti i_35_12 f_35_19 g_2 rfl rfl ?_
  refine x_aload_n i_35_15 rfl rfl ?_
  refine x_getr i_35_16 f_35_16 g_2 rfl rfl ?_
  refine x_aload_n i_35_19 rfl rfl ?_
  refine x_geti (v := M 2 2 + 1) i_35_20 f_35_19 g_2 rfl (pm_get_e) rfl ?_
  refine x_aload_n i_35_23 rfl rfl ?_
  refine x_geti (v := M 2 3) i_35_24 f_35_23 g_2 rfl (pm_get_j (by decide) rfl) rfl ?_
  obtain ⟨q2, h⟩ := h
  refine x_iastore i_35_27 g_14 rfl q2 ?_
  refine x_iload_n i_35_28 rfl rfl ?_
  exact x_ireti i_35_29 r_35 h
/-! GateBench$Clauses.sizeOf at 0 -/
theorem s_36_0 {L : Nat} {M : pm_M} {Q : pm_P} {a1 : Int}
    (h : (pm_R (a1 + 1)) ∧ (0 ≤ a1 + 1 ∧ a1 + 1 < 16117) ∧ (0 ≤ a1 ∧ a1 < 16117) ∧ (pm_R (M 14 (a1 + 1) - M 14 a1)) ∧ Q (.inl (some (.inl (M 14 (a1 + 1) - M 14 a1)))) M) :
    pm_X L (36, 0, [some (.inr (.inl 2)), some (.inl a1)], [], M) Q := by
  refine x_aload_n i_36_0 rfl rfl ?_
  refine x_getr i_36_1 f_36_16 g_2 rfl rfl ?_
  refine x_iload_n i_36_4 rfl rfl ?_
  refine x_iconst i_36_5 (by decide) rfl ?_
  obtain ⟨q1, h⟩ := h
  refine x_iadd i_36_6 rfl q1 ?_
  obtain ⟨q2, h⟩ := h
  refine x_iaload (v := M 14 (a1 + 1)) i_36_7 g_14 (rfl) rfl q2 ?_
  refine x_aload_n i_36_8 rfl rfl ?_
  refine x_getr i_36_9 f_36_16 g_2 rfl rfl ?_
  refine x_iload_n i_36_12 rfl rfl ?_
  obtain ⟨q3, h⟩ := h
  refine x_iaload (v := M 14 a1) i_36_13 g_14 (rfl) rfl q3 ?_
  obtain ⟨q4, h⟩ := h
  refine x_isub i_36_14 rfl q4 ?_
  exact x_ireti i_36_15 r_36 h
/-! GateBench$Checker.begin at 0 -/
theorem s_37_0 {L : Nat} {M : pm_M} {Q : pm_P}
    (h : Q (.inl none) (pm_set (pm_set M 3 3 (M 2 2)) 3 4 0)) :
    pm_X L (37, 0, [some (.inr (.inl 3))], [], M) Q := by
  refine x_aload_n i_37_0 rfl rfl ?_
  refine x_aload_n i_37_1 rfl rfl ?_
  refine x_getr i_37_2 f_37_15 g_3 rfl rfl ?_
  refine x_geti (v := M 2 2) i_37_5 f_37_19 g_2 rfl (rfl) rfl ?_
  refine x_puti i_37_8 f_37_25 g_3 rfl rfl ?_
  refine x_aload_n i_37_11 rfl rfl ?_
  refine x_iconst i_37_12 (by decide) rfl ?_
  refine x_putz i_37_13 f_37_28 g_3 rfl rfl (by unfold pm_bit; decide) ?_
  exact x_ret i_37_16 r_37 h
/-! GateBench$Checker.hasRefutation at 0 -/
theorem s_38_0 {L : Nat} {M : pm_M} {Q : pm_P}
    (h : (pm_bit (M 3 4)) ∧ Q (.inl (some (.inl (M 3 4)))) M) :
    pm_X L (38, 0, [some (.inr (.inl 3))], [], M) Q := by
  refine x_aload_n i_38_0 rfl rfl ?_
  refine x_geti (v := M 3 4) i_38_1 f_38_28 g_3 rfl (rfl) rfl ?_
  obtain ⟨q1, h⟩ := h
  exact x_iretz i_38_4 r_38 q1 h
/-! GateBench$Checker.goThrough at 0 -/
theorem s_39_0 {L : Nat} {M : pm_M} {Q : pm_P} {a1 a3 : Int}
    (h : ((¬ a1 = M 3 3 → Q (.inl none) M) ∧ (¬ (¬ a1 = M 3 3) → pm_X L (40, 0, [some (.inr (.inl 3)), some (.inl a1), some (.inr (.inl 19)), some (.inl a3), none, none], [], M) (pm_back (pm_X L) 39 12 [some (.inr (.inl 3)), some (.inl a1), some (.inr (.inl 19)), some (.inl a3)] [] Q)))) :
    pm_X L (39, 0, [some (.inr (.inl 3)), some (.inl a1), some (.inr (.inl 19)), some (.inl a3)], [], M) Q := by
  refine x_iload_n i_39_0 rfl rfl ?_
  refine x_aload_n i_39_1 rfl rfl ?_
  refine x_geti (v := M 3 3) i_39_2 f_39_25 g_3 rfl (rfl) rfl ?_
  refine x_icmp (C := ¬ a1 = M 3 3) i_39_5 rfl Iff.rfl rfl ⟨fun c1 => ?_, fun c1 => ?_⟩
  · replace h := h.1 c1
    exact x_ret i_39_55 r_39 h
  · replace h := h.2 c1
    refine x_aload_n i_39_8 rfl rfl ?_
    refine x_iload_n i_39_9 rfl rfl ?_
    refine x_aload_n i_39_10 rfl rfl ?_
    refine x_iload_n i_39_11 rfl rfl ?_
    refine x_callv (as := [.inl a1, .inr (.inl 19), .inl a3]) (rest := []) i_39_12 k_39_32 rfl rfl rfl g_3 (Nat.le_of_ble_eq_true rfl) m_40 rfl h
/-! GateBench$Checker.goThrough at 15 -/
theorem s_39_15 {L : Nat} {M : pm_M} {Q : pm_P} {a1 a3 r : Int}
    (h : ((r = 0 → Q (.inl none) M) ∧ (¬ (r = 0) → (pm_R (M 3 3 + 1)) ∧ ((¬ M 3 4 = 0 → Q (.inl none) (pm_set (pm_set M 3 3 (M 3 3 + 1)) 3 4 1)) ∧ (¬ (¬ M 3 4 = 0) → (pm_R (a1 + 1)) ∧ (0 ≤ a1 + 1 ∧ a1 + 1 < 16117) ∧ (0 ≤ a1 ∧ a1 < 16117) ∧ (pm_R (M 14 (a1 + 1) - M 14 a1)) ∧ ((¬ M 14 (a1 + 1) - M 14 a1 = 0 → Q (.inl none) (pm_set (pm_set M 3 3 (M 3 3 + 1)) 3 4 0)) ∧ (¬ (¬ M 14 (a1 + 1) - M 14 a1 = 0) → Q (.inl none) (pm_set (pm_set M 3 3 (M 3 3 + 1)) 3 4 1)))))))) :
    pm_X L (39, 15, [some (.inr (.inl 3)), some (.inl a1), some (.inr (.inl 19)), some (.inl a3)], [.inl r], M) Q := by
  refine x_if (C := r = 0) i_39_15 rfl Iff.rfl rfl ⟨fun c1 => ?_, fun c1 => ?_⟩
  · replace h := h.1 c1
    exact x_ret i_39_55 r_39 h
  · replace h := h.2 c1
    refine x_aload_n i_39_18 rfl rfl ?_
    refine x_dup i_39_19 rfl rfl ?_
    refine x_geti (v := M 3 3) i_39_20 f_39_25 g_3 rfl (rfl) rfl ?_
    refine x_iconst i_39_23 (by decide) rfl ?_
    obtain ⟨q2, h⟩ := h
    refine x_iadd i_39_24 rfl q2 ?_
    refine x_puti i_39_25 f_39_25 g_3 rfl rfl ?_
    refine x_aload_n i_39_28 rfl rfl ?_
    refine x_aload_n i_39_29 rfl rfl ?_
    refine x_geti (v := M 3 4) i_39_30 f_39_28 g_3 rfl (pm_get_j (by decide) rfl) rfl ?_
    refine x_if (C := ¬ M 3 4 = 0) i_39_33 rfl Iff.rfl rfl ⟨fun c3 => ?_, fun c3 => ?_⟩
    · replace h := h.1 c3
      refine x_iconst i_39_47 (by decide) rfl ?_
      refine x_goto i_39_48 rfl ?_
      refine x_putz i_39_52 f_39_28 g_3 rfl rfl (by unfold pm_bit; decide) ?_
      exact x_ret i_39_55 r_39 h
    · replace h := h.2 c3
      refine x_aload_n i_39_36 rfl rfl ?_
      refine x_getr i_39_37 f_39_15 g_3 rfl rfl ?_
      refine x_iload_n i_39_40 rfl rfl ?_
      refine x_callv (as := [.inl a1]) (rest := [.inr (.inl 3)]) i_39_41 k_39_36 rfl rfl rfl g_2 (Nat.le_of_ble_eq_true rfl) m_36 rfl ?_
      refine x_aload_n i_36_0 rfl rfl ?_
      refine x_getr i_36_1 f_36_16 g_2 rfl rfl ?_
      refine x_iload_n i_36_4 rfl rfl ?_
      refine x_iconst i_36_5 (by decide) rfl ?_
      obtain ⟨q4, h⟩ := h
      refine x_iadd i_36_6 rfl q4 ?_
      obtain ⟨q5, h⟩ := h
      refine x_iaload (v := M 14 (a1 + 1)) i_36_7 g_14 (pm_get_c (by decide) rfl) rfl q5 ?_
      refine x_aload_n i_36_8 rfl rfl ?_
      refine x_getr i_36_9 f_36_16 g_2 rfl rfl ?_
      refine x_iload_n i_36_12 rfl rfl ?_
      obtain ⟨q6, h⟩ := h
      refine x_iaload (v := M 14 a1) i_36_13 g_14 (pm_get_c (by decide) rfl) rfl q6 ?_
      obtain ⟨q7, h⟩ := h
      refine x_isub i_36_14 rfl q7 ?_
      refine x_ireti i_36_15 r_36 ?_
      refine x_bki rfl ?_
      refine x_if (C := ¬ M 14 (a1 + 1) - M 14 a1 = 0) i_39_44 rfl Iff.rfl rfl ⟨fun c8 => ?_, fun c8 => ?_⟩
      · replace h := h.1 c8
        refine x_iconst i_39_51 (by decide) rfl ?_
        refine x_putz i_39_52 f_39_28 g_3 rfl rfl (by unfold pm_bit; decide) ?_
        exact x_ret i_39_55 r_39 h
      · replace h := h.2 c8
        refine x_iconst i_39_47 (by decide) rfl ?_
        refine x_goto i_39_48 rfl ?_
        refine x_putz i_39_52 f_39_28 g_3 rfl rfl (by unfold pm_bit; decide) ?_
        exact x_ret i_39_55 r_39 h
/-! GateBench$Checker.follows at 0 -/
theorem s_40_0 {L : Nat} {M : pm_M} {Q : pm_P} {a1 a3 : Int}
    (h : (pm_R (M 3 2 + 1)) ∧ (0 ≤ a1 ∧ a1 < 16117) ∧ pm_X L (40, 21, [some (.inr (.inl 3)), some (.inl a1), some (.inr (.inl 19)), some (.inl a3), some (.inl (M 14 a1)), none], [], pm_set M 3 2 (M 3 2 + 1)) Q) :
    pm_X L (40, 0, [some (.inr (.inl 3)), some (.inl a1), some (.inr (.inl 19)), some (.inl a3), none, none], [], M) Q := by
  refine x_aload_n i_40_0 rfl rfl ?_
  refine x_dup i_40_1 rfl rfl ?_
  refine x_geti (v := M 3 2) i_40_2 f_40_40 g_3 rfl (rfl) rfl ?_
  refine x_iconst i_40_5 (by decide) rfl ?_
  obtain ⟨q1, h⟩ := h
  refine x_iadd i_40_6 rfl q1 ?_
  refine x_puti i_40_7 f_40_40 g_3 rfl rfl ?_
  refine x_aload_n i_40_10 rfl rfl ?_
  refine x_getr i_40_11 f_40_15 g_3 rfl rfl ?_
  refine x_getr i_40_14 f_40_43 g_2 rfl rfl ?_
  refine x_iload_n i_40_17 rfl rfl ?_
  obtain ⟨q2, h⟩ := h
  refine x_iaload (v := M 14 a1) i_40_18 g_14 (pm_get_c (by decide) rfl) rfl q2 ?_
  refine x_istore i_40_19 (Nat.le_of_ble_eq_true rfl) rfl rfl ?_
  exact h
/-! GateBench$Checker.follows at 21 -/
theorem s_40_21 {L : Nat} {M : pm_M} {Q : pm_P} {a1 a3 a4 : Int}
    (h : (pm_R (a1 + 1)) ∧ (0 ≤ a1 + 1 ∧ a1 + 1 < 16117) ∧ ((M 14 (a1 + 1) ≤ a4 → pm_X L (40, 65, [some (.inr (.inl 3)), some (.inl a1), some (.inr (.inl 19)), some (.inl a3), some (.inl 0), none], [], M) Q) ∧ (¬ (M 14 (a1 + 1) ≤ a4) → (0 ≤ a4 ∧ a4 < 85212) ∧ (0 ≤ M 13 a4 ∧ M 13 a4 < 4000) ∧ (pm_R (a4 + 1)) ∧ pm_X L (40, 21, [some (.inr (.inl 3)), some (.inl a1), some (.inr (.inl 19)), some (.inl a3), some (.inl (a4 + 1)), none], [], pm_set M 15 (M 13 a4) (M 3 2)) Q))) :
    pm_X L (40, 21, [some (.inr (.inl 3)), some (.inl a1), some (.inr (.inl 19)), some (.inl a3), some (.inl a4), none], [], M) Q := by
  refine x_iload i_40_21 rfl rfl ?_
  refine x_aload_n i_40_23 rfl rfl ?_
  refine x_getr i_40_24 f_40_15 g_3 rfl rfl ?_
  refine x_getr i_40_27 f_40_43 g_2 rfl rfl ?_
  refine x_iload_n i_40_30 rfl rfl ?_
  refine x_iconst i_40_31 (by decide) rfl ?_
  obtain ⟨q1, h⟩ := h
  refine x_iadd i_40_32 rfl q1 ?_
  obtain ⟨q2, h⟩ := h
  refine x_iaload (v := M 14 (a1 + 1)) i_40_33 g_14 (rfl) rfl q2 ?_
  refine x_icmp (C := M 14 (a1 + 1) ≤ a4) i_40_34 rfl Iff.rfl rfl ⟨fun c3 => ?_, fun c3 => ?_⟩
  · replace h := h.1 c3
    refine x_iconst i_40_62 (by decide) rfl ?_
    refine x_istore i_40_63 (Nat.le_of_ble_eq_true rfl) rfl rfl ?_
    exact h
  · replace h := h.2 c3
    refine x_aload_n i_40_37 rfl rfl ?_
    refine x_getr i_40_38 f_40_9 g_3 rfl rfl ?_
    refine x_aload_n i_40_41 rfl rfl ?_
    refine x_getr i_40_42 f_40_15 g_3 rfl rfl ?_
    refine x_getr i_40_45 f_40_46 g_2 rfl rfl ?_
    refine x_iload i_40_48 rfl rfl ?_
    obtain ⟨q4, h⟩ := h
    refine x_iaload (v := M 13 a4) i_40_50 g_13 (rfl) rfl q4 ?_
    refine x_aload_n i_40_51 rfl rfl ?_
    refine x_geti (v := M 3 2) i_40_52 f_40_40 g_3 rfl (rfl) rfl ?_
    obtain ⟨q5, h⟩ := h
    refine x_iastore i_40_55 g_15 rfl q5 ?_
    obtain ⟨q6, h⟩ := h
    refine x_iinc i_40_56 rfl (by decide) rfl rfl q6 ?_
    refine x_goto i_40_59 rfl ?_
    exact h
/-! GateBench$Checker.follows at 65 -/
theorem s_40_65 {L : Nat} {M : pm_M} {Q : pm_P} {a1 a3 a4 : Int} {o5 : Option pm_V}
    (h : ((a3 ≤ a4 → Q (.inl (some (.inl 0))) M) ∧ (¬ (a3 ≤ a4) → (0 ≤ a4 ∧ a4 < 2001) ∧ ((M 19 a4 < 0 → Q (.inl (some (.inl 0))) M) ∧ (¬ (M 19 a4 < 0) → ((M 19 a4 < M 3 3 → pm_X L (41, 0, [some (.inr (.inl 3)), some (.inl (M 19 a4)), none, none], [], M) (pm_back (pm_X L) 40 96 [some (.inr (.inl 3)), some (.inl a1), some (.inr (.inl 19)), some (.inl a3), some (.inl a4), o5] [] Q)) ∧ (¬ (M 19 a4 < M 3 3) → Q (.inl (some (.inl 0))) M))))))) :
    pm_X L (40, 65, [some (.inr (.inl 3)), some (.inl a1), some (.inr (.inl 19)), some (.inl a3), some (.inl a4), o5], [], M) Q := by
  refine x_iload i_40_65 rfl rfl ?_
  refine x_iload_n i_40_67 rfl rfl ?_
  refine x_icmp (C := a3 ≤ a4) i_40_68 rfl Iff.rfl rfl ⟨fun c1 => ?_, fun c1 => ?_⟩
  · replace h := h.1 c1
    refine x_iconst i_40_138 (by decide) rfl ?_
    exact x_iretz i_40_139 r_40 (by unfold pm_bit; decide) h
  · replace h := h.2 c1
    refine x_aload_n i_40_71 rfl rfl ?_
    refine x_iload i_40_72 rfl rfl ?_
    obtain ⟨q2, h⟩ := h
    refine x_iaload (v := M 19 a4) i_40_74 g_19 (rfl) rfl q2 ?_
    refine x_if (C := M 19 a4 < 0) i_40_75 rfl Iff.rfl rfl ⟨fun c3 => ?_, fun c3 => ?_⟩
    · replace h := h.1 c3
      refine x_iconst i_40_89 (by decide) rfl ?_
      exact x_iretz i_40_90 r_40 (by unfold pm_bit; decide) h
    · replace h := h.2 c3
      refine x_aload_n i_40_78 rfl rfl ?_
      refine x_iload i_40_79 rfl rfl ?_
      refine x_iaload (v := M 19 a4) i_40_81 g_19 (rfl) rfl q2 ?_
      refine x_aload_n i_40_82 rfl rfl ?_
      refine x_geti (v := M 3 3) i_40_83 f_40_25 g_3 rfl (rfl) rfl ?_
      refine x_icmp (C := M 19 a4 < M 3 3) i_40_86 rfl Iff.rfl rfl ⟨fun c4 => ?_, fun c4 => ?_⟩
      · replace h := h.1 c4
        refine x_aload_n i_40_91 rfl rfl ?_
        refine x_aload_n i_40_92 rfl rfl ?_
        refine x_iload i_40_93 rfl rfl ?_
        refine x_iaload (v := M 19 a4) i_40_95 g_19 (rfl) rfl q2 ?_
        refine x_callv (as := [.inl (M 19 a4)]) (rest := []) i_40_96 k_40_49 rfl rfl rfl g_3 (Nat.le_of_ble_eq_true rfl) m_41 rfl h
      · replace h := h.2 c4
        refine x_iconst i_40_89 (by decide) rfl ?_
        exact x_iretz i_40_90 r_40 (by unfold pm_bit; decide) h
/-! GateBench$Checker.follows at 99 -/
theorem s_40_99 {L : Nat} {M : pm_M} {Q : pm_P} {a1 a3 a4 r : Int} {o5 : Option pm_V}
    (h : ((0 ≤ r → (0 ≤ pm_op r ∧ pm_op r < 4000) ∧ (pm_R (a4 + 1)) ∧ pm_X L (40, 65, [some (.inr (.inl 3)), some (.inl a1), some (.inr (.inl 19)), some (.inl a3), some (.inl (a4 + 1)), some (.inl r)], [], pm_set M 15 (pm_op r) (M 3 2)) Q) ∧ (¬ (0 ≤ r) → ((¬ r = -1 → Q (.inl (some (.inl 0))) M) ∧ (¬ (¬ r = -1) → Q (.inl (some (.inl 1))) M))))) :
    pm_X L (40, 99, [some (.inr (.inl 3)), some (.inl a1), some (.inr (.inl 19)), some (.inl a3), some (.inl a4), o5], [.inl r], M) Q := by
  refine x_istore i_40_99 (Nat.le_of_ble_eq_true rfl) rfl rfl ?_
  refine x_iload i_40_101 rfl rfl ?_
  refine x_if (C := 0 ≤ r) i_40_103 rfl Iff.rfl rfl ⟨fun c1 => ?_, fun c1 => ?_⟩
  · replace h := h.1 c1
    refine x_aload_n i_40_118 rfl rfl ?_
    refine x_getr i_40_119 f_40_9 g_3 rfl rfl ?_
    refine x_iload i_40_122 rfl rfl ?_
    refine x_calls (as := [.inl r]) (rest := [.inr (.inl 15)]) i_40_124 k_40_52 rfl rfl rfl (Nat.le_of_ble_eq_true rfl) m_15 rfl ?_
    refine x_iload_n i_15_0 rfl rfl ?_
    refine x_iconst i_15_1 (by decide) rfl ?_
    refine x_ixor i_15_2 rfl ?_
    refine x_ireti i_15_3 r_15 ?_
    refine x_bki rfl ?_
    refine x_aload_n i_40_127 rfl rfl ?_
    refine x_geti (v := M 3 2) i_40_128 f_40_40 g_3 rfl (rfl) rfl ?_
    obtain ⟨q2, h⟩ := h
    refine x_iastore i_40_131 g_15 rfl q2 ?_
    obtain ⟨q3, h⟩ := h
    refine x_iinc i_40_132 rfl (by decide) rfl rfl q3 ?_
    refine x_goto i_40_135 rfl ?_
    exact h
  · replace h := h.2 c1
    refine x_iload i_40_106 rfl rfl ?_
    refine x_iconst i_40_108 (by decide) rfl ?_
    refine x_icmp (C := ¬ r = -1) i_40_109 rfl Iff.rfl rfl ⟨fun c4 => ?_, fun c4 => ?_⟩
    · replace h := h.1 c4
      refine x_iconst i_40_116 (by decide) rfl ?_
      exact x_iretz i_40_117 r_40 (by unfold pm_bit; decide) h
    · replace h := h.2 c4
      refine x_iconst i_40_112 (by decide) rfl ?_
      refine x_goto i_40_113 rfl ?_
      exact x_iretz i_40_117 r_40 (by unfold pm_bit; decide) h
/-! GateBench$Checker.literalLeft at 0 -/
theorem s_41_0 {L : Nat} {M : pm_M} {Q : pm_P} {a1 : Int}
    (h : (0 ≤ a1 ∧ a1 < 16117) ∧ pm_X L (41, 12, [some (.inr (.inl 3)), some (.inl a1), some (.inl (-1)), some (.inl (M 14 a1))], [], M) Q) :
    pm_X L (41, 0, [some (.inr (.inl 3)), some (.inl a1), none, none], [], M) Q := by
  refine x_iconst i_41_0 (by decide) rfl ?_
  refine x_istore_n i_41_1 (Nat.le_of_ble_eq_true rfl) rfl rfl ?_
  refine x_aload_n i_41_2 rfl rfl ?_
  refine x_getr i_41_3 f_41_15 g_3 rfl rfl ?_
  refine x_getr i_41_6 f_41_43 g_2 rfl rfl ?_
  refine x_iload_n i_41_9 rfl rfl ?_
  obtain ⟨q1, h⟩ := h
  refine x_iaload (v := M 14 a1) i_41_10 g_14 (rfl) rfl q1 ?_
  refine x_istore_n i_41_11 (Nat.le_of_ble_eq_true rfl) rfl rfl ?_
  exact h
/-! GateBench$Checker.literalLeft at 12 -/
theorem s_41_12 {L : Nat} {M : pm_M} {Q : pm_P} {a1 a2 a3 : Int}
    (h : (pm_R (a1 + 1)) ∧ (0 ≤ a1 + 1 ∧ a1 + 1 < 16117) ∧ ((M 14 (a1 + 1) ≤ a3 → Q (.inl (some (.inl a2))) M) ∧ (¬ (M 14 (a1 + 1) ≤ a3) → (0 ≤ a3 ∧ a3 < 85212) ∧ (0 ≤ M 13 a3 ∧ M 13 a3 < 4000) ∧ ((M 15 (M 13 a3) = M 3 2 → (pm_R (a3 + 1)) ∧ pm_X L (41, 12, [some (.inr (.inl 3)), some (.inl a1), some (.inl a2), some (.inl (a3 + 1))], [], M) Q) ∧ (¬ (M 15 (M 13 a3) = M 3 2) → ((¬ a2 = -1 → (pm_R (a3 + 1)) ∧ pm_X L (41, 12, [some (.inr (.inl 3)), some (.inl a1), some (.inl (-2)), some (.inl (a3 + 1))], [], M) Q) ∧ (¬ (¬ a2 = -1) → (pm_R (a3 + 1)) ∧ pm_X L (41, 12, [some (.inr (.inl 3)), some (.inl a1), some (.inl (M 13 a3)), some (.inl (a3 + 1))], [], M) Q))))))) :
    pm_X L (41, 12, [some (.inr (.inl 3)), some (.inl a1), some (.inl a2), some (.inl a3)], [], M) Q := by
  refine x_iload_n i_41_12 rfl rfl ?_
  refine x_aload_n i_41_13 rfl rfl ?_
  refine x_getr i_41_14 f_41_15 g_3 rfl rfl ?_
  refine x_getr i_41_17 f_41_43 g_2 rfl rfl ?_
  refine x_iload_n i_41_20 rfl rfl ?_
  refine x_iconst i_41_21 (by decide) rfl ?_
  obtain ⟨q1, h⟩ := h
  refine x_iadd i_41_22 rfl q1 ?_
  obtain ⟨q2, h⟩ := h
  refine x_iaload (v := M 14 (a1 + 1)) i_41_23 g_14 (rfl) rfl q2 ?_
  refine x_icmp (C := M 14 (a1 + 1) ≤ a3) i_41_24 rfl Iff.rfl rfl ⟨fun c3 => ?_, fun c3 => ?_⟩
  · replace h := h.1 c3
    refine x_iload_n i_41_74 rfl rfl ?_
    exact x_ireti i_41_75 r_41 h
  · replace h := h.2 c3
    refine x_aload_n i_41_27 rfl rfl ?_
    refine x_getr i_41_28 f_41_9 g_3 rfl rfl ?_
    refine x_aload_n i_41_31 rfl rfl ?_
    refine x_getr i_41_32 f_41_15 g_3 rfl rfl ?_
    refine x_getr i_41_35 f_41_46 g_2 rfl rfl ?_
    refine x_iload_n i_41_38 rfl rfl ?_
    obtain ⟨q4, h⟩ := h
    refine x_iaload (v := M 13 a3) i_41_39 g_13 (rfl) rfl q4 ?_
    obtain ⟨q5, h⟩ := h
    refine x_iaload (v := M 15 (M 13 a3)) i_41_40 g_15 (rfl) rfl q5 ?_
    refine x_aload_n i_41_41 rfl rfl ?_
    refine x_geti (v := M 3 2) i_41_42 f_41_40 g_3 rfl (rfl) rfl ?_
    refine x_icmp (C := M 15 (M 13 a3) = M 3 2) i_41_45 rfl Iff.rfl rfl ⟨fun c6 => ?_, fun c6 => ?_⟩
    · replace h := h.1 c6
      obtain ⟨q7, h⟩ := h
      refine x_iinc i_41_68 rfl (by decide) rfl rfl q7 ?_
      refine x_goto i_41_71 rfl ?_
      exact h
    · replace h := h.2 c6
      refine x_iload_n i_41_48 rfl rfl ?_
      refine x_iconst i_41_49 (by decide) rfl ?_
      refine x_icmp (C := ¬ a2 = -1) i_41_50 rfl Iff.rfl rfl ⟨fun c8 => ?_, fun c8 => ?_⟩
      · replace h := h.1 c8
        refine x_bipush i_41_65 (by decide) rfl ?_
        refine x_istore_n i_41_67 (Nat.le_of_ble_eq_true rfl) rfl rfl ?_
        obtain ⟨q9, h⟩ := h
        refine x_iinc i_41_68 rfl (by decide) rfl rfl q9 ?_
        refine x_goto i_41_71 rfl ?_
        exact h
      · replace h := h.2 c8
        refine x_aload_n i_41_53 rfl rfl ?_
        refine x_getr i_41_54 f_41_15 g_3 rfl rfl ?_
        refine x_getr i_41_57 f_41_46 g_2 rfl rfl ?_
        refine x_iload_n i_41_60 rfl rfl ?_
        refine x_iaload (v := M 13 a3) i_41_61 g_13 (rfl) rfl q4 ?_
        refine x_goto i_41_62 rfl ?_
        refine x_istore_n i_41_67 (Nat.le_of_ble_eq_true rfl) rfl rfl ?_
        obtain ⟨q10, h⟩ := h
        refine x_iinc i_41_68 rfl (by decide) rfl rfl q10 ?_
        refine x_goto i_41_71 rfl ?_
        exact h
/-! GateBench$Search.makesTrue at 0 -/
theorem s_42_0 {L : Nat} {M : pm_M} {Q : pm_P} {a1 : Int}
    (h : (pm_R (2 * a1)) ∧ (0 ≤ 2 * a1 ∧ 2 * a1 < 4000) ∧ (pm_bit (M 20 (2 * a1))) ∧ Q (.inl (some (.inl (M 20 (2 * a1))))) M) :
    pm_X L (42, 0, [some (.inr (.inl 4)), some (.inl a1)], [], M) Q := by
  refine x_aload_n i_42_0 rfl rfl ?_
  refine x_getr i_42_1 f_42_12 g_4 rfl rfl ?_
  refine x_getr i_42_4 f_42_44 g_5 rfl rfl ?_
  refine x_iload_n i_42_7 rfl rfl ?_
  refine x_calls (as := [.inl a1]) (rest := [.inr (.inl 20)]) i_42_8 k_42_47 rfl rfl rfl (Nat.le_of_ble_eq_true rfl) m_14 rfl ?_
  refine x_iconst i_14_0 (by decide) rfl ?_
  refine x_iload_n i_14_1 rfl rfl ?_
  obtain ⟨q1, h⟩ := h
  refine x_imul i_14_2 rfl q1 ?_
  refine x_ireti i_14_3 r_14 ?_
  refine x_bki rfl ?_
  obtain ⟨q2, h⟩ := h
  refine x_baload (v := M 20 (2 * a1)) i_42_11 g_20 (rfl) rfl q2 ?_
  obtain ⟨q3, h⟩ := h
  exact x_iretz i_42_12 r_42 q3 h
/-! GateBench$Search.findsLeast at 0 -/
theorem s_43_0 {L : Nat} {M : pm_M} {Q : pm_P}
    (h : pm_X L (45, 0, [some (.inr (.inl 4)), none, none, none, none], [], M) (pm_back (pm_X L) 43 1 [some (.inr (.inl 4)), none, none, none] [] Q)) :
    pm_X L (43, 0, [some (.inr (.inl 4)), none, none, none], [], M) Q := by
  refine x_aload_n i_43_0 rfl rfl ?_
  refine x_callv (as := []) (rest := []) i_43_1 k_43_51 rfl rfl rfl g_4 (Nat.le_of_ble_eq_true rfl) m_45 rfl h
/-! GateBench$Search.findsLeast at 4 -/
theorem s_43_4 {L : Nat} {M : pm_M} {Q : pm_P} {r : Int}
    (h : pm_X L (43, 7, [some (.inr (.inl 4)), some (.inl r), some (.inl 0), none], [], M) Q) :
    pm_X L (43, 4, [some (.inr (.inl 4)), none, none, none], [.inl r], M) Q := by
  refine x_istore_n i_43_4 (Nat.le_of_ble_eq_true rfl) rfl rfl ?_
  refine x_iconst i_43_5 (by decide) rfl ?_
  refine x_istore_n i_43_6 (Nat.le_of_ble_eq_true rfl) rfl rfl ?_
  exact h
/-! GateBench$Search.findsLeast at 7 -/
theorem s_43_7 {L : Nat} {M : pm_M} {Q : pm_P} {a1 a2 : Int} {o3 : Option pm_V}
    (h : ((4096 ≤ a2 → Q (.inl (some (.inl 0))) M) ∧ (¬ (4096 ≤ a2) → ((¬ a1 = -1 → pm_X L (53, 0, [some (.inr (.inl 4)), some (.inl a1), none, none], [], M) (pm_back (pm_X L) 43 33 [some (.inr (.inl 4)), some (.inl a1), some (.inl a2), o3] [] Q)) ∧ (¬ (¬ a1 = -1) → pm_X L (46, 0, [some (.inr (.inl 4)), none, none, none], [], M) (pm_back (pm_X L) 43 20 [some (.inr (.inl 4)), some (.inl a1), some (.inl a2), o3] [] Q)))))) :
    pm_X L (43, 7, [some (.inr (.inl 4)), some (.inl a1), some (.inl a2), o3], [], M) Q := by
  refine x_iload_n i_43_7 rfl rfl ?_
  refine x_sipush i_43_8 (by decide) rfl ?_
  refine x_icmp (C := 4096 ≤ a2) i_43_11 rfl Iff.rfl rfl ⟨fun c1 => ?_, fun c1 => ?_⟩
  · replace h := h.1 c1
    refine x_iconst i_43_63 (by decide) rfl ?_
    exact x_iretz i_43_64 r_43 (by unfold pm_bit; decide) h
  · replace h := h.2 c1
    refine x_iload_n i_43_14 rfl rfl ?_
    refine x_iconst i_43_15 (by decide) rfl ?_
    refine x_icmp (C := ¬ a1 = -1) i_43_16 rfl Iff.rfl rfl ⟨fun c2 => ?_, fun c2 => ?_⟩
    · replace h := h.1 c2
      refine x_iload_n i_43_24 rfl rfl ?_
      refine x_iconst i_43_25 (by decide) rfl ?_
      refine x_icmpT i_43_26 rfl c2 ?_
      refine x_aload_n i_43_31 rfl rfl ?_
      refine x_iload_n i_43_32 rfl rfl ?_
      refine x_callv (as := [.inl a1]) (rest := []) i_43_33 k_43_58 rfl rfl rfl g_4 (Nat.le_of_ble_eq_true rfl) m_53 rfl h
    · replace h := h.2 c2
      refine x_aload_n i_43_19 rfl rfl ?_
      refine x_callv (as := []) (rest := []) i_43_20 k_43_55 rfl rfl rfl g_4 (Nat.le_of_ble_eq_true rfl) m_46 rfl h
/-! GateBench$Search.findsLeast at 23 -/
theorem s_43_23 {L : Nat} {M : pm_M} {Q : pm_P} {a1 a2 r : Int} {o3 : Option pm_V}
    (h : ((¬ r = -1 → pm_X L (53, 0, [some (.inr (.inl 4)), some (.inl r), none, none], [], M) (pm_back (pm_X L) 43 33 [some (.inr (.inl 4)), some (.inl r), some (.inl a2), o3] [] Q)) ∧ (¬ (¬ r = -1) → Q (.inl (some (.inl 1))) M))) :
    pm_X L (43, 23, [some (.inr (.inl 4)), some (.inl a1), some (.inl a2), o3], [.inl r], M) Q := by
  refine x_istore_n i_43_23 (Nat.le_of_ble_eq_true rfl) rfl rfl ?_
  refine x_iload_n i_43_24 rfl rfl ?_
  refine x_iconst i_43_25 (by decide) rfl ?_
  refine x_icmp (C := ¬ r = -1) i_43_26 rfl Iff.rfl rfl ⟨fun c1 => ?_, fun c1 => ?_⟩
  · replace h := h.1 c1
    refine x_aload_n i_43_31 rfl rfl ?_
    refine x_iload_n i_43_32 rfl rfl ?_
    refine x_callv (as := [.inl r]) (rest := []) i_43_33 k_43_58 rfl rfl rfl g_4 (Nat.le_of_ble_eq_true rfl) m_53 rfl h
  · replace h := h.2 c1
    refine x_iconst i_43_29 (by decide) rfl ?_
    exact x_iretz i_43_30 r_43 (by unfold pm_bit; decide) h
/-! GateBench$Search.findsLeast at 36 -/
theorem s_43_36 {L : Nat} {M : pm_M} {Q : pm_P} {a1 a2 r : Int} {o3 : Option pm_V}
    (h : (pm_R (r + 1)) ∧ (0 ≤ r + 1 ∧ r + 1 < 16117) ∧ (0 ≤ r ∧ r < 16117) ∧ (pm_R (M 14 (r + 1) - M 14 r)) ∧ ((¬ M 14 (r + 1) - M 14 r = 0 → pm_X L (56, 0, [some (.inr (.inl 4)), some (.inl r), none], [], M) (pm_back (pm_X L) 43 52 [some (.inr (.inl 4)), some (.inl a1), some (.inl a2), some (.inl r)] [] Q)) ∧ (¬ (¬ M 14 (r + 1) - M 14 r = 0) → Q (.inl (some (.inl 0))) M))) :
    pm_X L (43, 36, [some (.inr (.inl 4)), some (.inl a1), some (.inl a2), o3], [.inl r], M) Q := by
  refine x_istore_n i_43_36 (Nat.le_of_ble_eq_true rfl) rfl rfl ?_
  refine x_aload_n i_43_37 rfl rfl ?_
  refine x_getr i_43_38 f_43_36 g_4 rfl rfl ?_
  refine x_iload_n i_43_41 rfl rfl ?_
  refine x_callv (as := [.inl r]) (rest := []) i_43_42 k_43_61 rfl rfl rfl g_2 (Nat.le_of_ble_eq_true rfl) m_36 rfl ?_
  refine x_aload_n i_36_0 rfl rfl ?_
  refine x_getr i_36_1 f_36_16 g_2 rfl rfl ?_
  refine x_iload_n i_36_4 rfl rfl ?_
  refine x_iconst i_36_5 (by decide) rfl ?_
  obtain ⟨q1, h⟩ := h
  refine x_iadd i_36_6 rfl q1 ?_
  obtain ⟨q2, h⟩ := h
  refine x_iaload (v := M 14 (r + 1)) i_36_7 g_14 (rfl) rfl q2 ?_
  refine x_aload_n i_36_8 rfl rfl ?_
  refine x_getr i_36_9 f_36_16 g_2 rfl rfl ?_
  refine x_iload_n i_36_12 rfl rfl ?_
  obtain ⟨q3, h⟩ := h
  refine x_iaload (v := M 14 r) i_36_13 g_14 (rfl) rfl q3 ?_
  obtain ⟨q4, h⟩ := h
  refine x_isub i_36_14 rfl q4 ?_
  refine x_ireti i_36_15 r_36 ?_
  refine x_bki rfl ?_
  refine x_if (C := ¬ M 14 (r + 1) - M 14 r = 0) i_43_45 rfl Iff.rfl rfl ⟨fun c5 => ?_, fun c5 => ?_⟩
  · replace h := h.1 c5
    refine x_aload_n i_43_50 rfl rfl ?_
    refine x_iload_n i_43_51 rfl rfl ?_
    refine x_callv (as := [.inl r]) (rest := []) i_43_52 k_43_66 rfl rfl rfl g_4 (Nat.le_of_ble_eq_true rfl) m_56 rfl h
  · replace h := h.2 c5
    refine x_iconst i_43_48 (by decide) rfl ?_
    exact x_iretz i_43_49 r_43 (by unfold pm_bit; decide) h
/-! GateBench$Search.findsLeast at 55 -/
theorem s_43_55 {L : Nat} {M : pm_M} {Q : pm_P} {a1 a2 a3 : Int}
    (h : (pm_R (a2 + 1)) ∧ pm_X L (43, 7, [some (.inr (.inl 4)), some (.inl (-1)), some (.inl (a2 + 1)), some (.inl a3)], [], M) Q) :
    pm_X L (43, 55, [some (.inr (.inl 4)), some (.inl a1), some (.inl a2), some (.inl a3)], [], M) Q := by
  refine x_iconst i_43_55 (by decide) rfl ?_
  refine x_istore_n i_43_56 (Nat.le_of_ble_eq_true rfl) rfl rfl ?_
  obtain ⟨q1, h⟩ := h
  refine x_iinc i_43_57 rfl (by decide) rfl rfl q1 ?_
  refine x_goto i_43_60 rfl ?_
  exact h
/-! GateBench$Search.startAnew at 0 -/
theorem s_44_0 {L : Nat} {M : pm_M} {Q : pm_P}
    (h : pm_X L (57, 0, [some (.inr (.inl 5))], [], M) (pm_back (pm_X L) 44 4 [some (.inr (.inl 4)), none] [] Q)) :
    pm_X L (44, 0, [some (.inr (.inl 4)), none], [], M) Q := by
  refine x_aload_n i_44_0 rfl rfl ?_
  refine x_getr i_44_1 f_44_12 g_4 rfl rfl ?_
  refine x_callv (as := []) (rest := []) i_44_4 k_44_70 rfl rfl rfl g_5 (Nat.le_of_ble_eq_true rfl) m_57 rfl h
/-! GateBench$Search.startAnew at 7 -/
theorem s_44_7 {L : Nat} {M : pm_M} {Q : pm_P}
    (h : pm_X L (44, 14, [some (.inr (.inl 4)), some (.inl 0)], [], pm_set M 4 9 0) Q) :
    pm_X L (44, 7, [some (.inr (.inl 4)), none], [], M) Q := by
  refine x_aload_n i_44_7 rfl rfl ?_
  refine x_iconst i_44_8 (by decide) rfl ?_
  refine x_puti i_44_9 f_44_73 g_4 rfl rfl ?_
  refine x_iconst i_44_12 (by decide) rfl ?_
  refine x_istore_n i_44_13 (Nat.le_of_ble_eq_true rfl) rfl rfl ?_
  exact h
/-! GateBench$Search.startAnew at 14 -/
theorem s_44_14 {L : Nat} {M : pm_M} {Q : pm_P} {a1 : Int}
    (h : (pm_R (2 * M 1 6)) ∧ ((2 * M 1 6 ≤ a1 → Q (.inl none) M) ∧ (¬ (2 * M 1 6 ≤ a1) → (0 ≤ a1 ∧ a1 < 4000) ∧ (pm_R (a1 + 1)) ∧ pm_X L (44, 14, [some (.inr (.inl 4)), some (.inl (a1 + 1))], [], pm_set M 16 a1 (-1)) Q))) :
    pm_X L (44, 14, [some (.inr (.inl 4)), some (.inl a1)], [], M) Q := by
  refine x_iload_n i_44_14 rfl rfl ?_
  refine x_iconst i_44_15 (by decide) rfl ?_
  refine x_aload_n i_44_16 rfl rfl ?_
  refine x_getr i_44_17 f_44_32 g_4 rfl rfl ?_
  refine x_geti (v := M 1 6) i_44_20 f_44_77 g_1 rfl (rfl) rfl ?_
  obtain ⟨q1, h⟩ := h
  refine x_imul i_44_23 rfl q1 ?_
  refine x_icmp (C := 2 * M 1 6 ≤ a1) i_44_24 rfl Iff.rfl rfl ⟨fun c2 => ?_, fun c2 => ?_⟩
  · replace h := h.1 c2
    exact x_ret i_44_40 r_44 h
  · replace h := h.2 c2
    refine x_aload_n i_44_27 rfl rfl ?_
    refine x_getr i_44_28 f_44_18 g_4 rfl rfl ?_
    refine x_iload_n i_44_31 rfl rfl ?_
    refine x_iconst i_44_32 (by decide) rfl ?_
    obtain ⟨q3, h⟩ := h
    refine x_iastore i_44_33 g_16 rfl q3 ?_
    obtain ⟨q4, h⟩ := h
    refine x_iinc i_44_34 rfl (by decide) rfl rfl q4 ?_
    refine x_goto i_44_37 rfl ?_
    exact h
/-! GateBench$Search.takeUpClauses at 0 -/
theorem s_45_0 {L : Nat} {M : pm_M} {Q : pm_P}
    (h : pm_X L (44, 0, [some (.inr (.inl 4)), none], [], M) (pm_back (pm_X L) 45 1 [some (.inr (.inl 4)), none, none, none, none] [] Q)) :
    pm_X L (45, 0, [some (.inr (.inl 4)), none, none, none, none], [], M) Q := by
  refine x_aload_n i_45_0 rfl rfl ?_
  refine x_callv (as := []) (rest := []) i_45_1 k_45_82 rfl rfl rfl g_4 (Nat.le_of_ble_eq_true rfl) m_44 rfl h
/-! GateBench$Search.takeUpClauses at 4 -/
theorem s_45_4 {L : Nat} {M : pm_M} {Q : pm_P}
    (h : pm_X L (45, 8, [some (.inr (.inl 4)), some (.inl (-1)), some (.inl 0), none, none], [], M) Q) :
    pm_X L (45, 4, [some (.inr (.inl 4)), none, none, none, none], [], M) Q := by
  refine x_iconst i_45_4 (by decide) rfl ?_
  refine x_istore_n i_45_5 (Nat.le_of_ble_eq_true rfl) rfl rfl ?_
  refine x_iconst i_45_6 (by decide) rfl ?_
  refine x_istore_n i_45_7 (Nat.le_of_ble_eq_true rfl) rfl rfl ?_
  exact h
/-! GateBench$Search.takeUpClauses at 8 -/
theorem s_45_8 {L : Nat} {M : pm_M} {Q : pm_P} {a1 a2 : Int} {o3 o4 : Option pm_V}
    (h : ((M 2 2 ≤ a2 → Q (.inl (some (.inl a1))) M) ∧ (¬ (M 2 2 ≤ a2) → (pm_R (a2 + 1)) ∧ (0 ≤ a2 + 1 ∧ a2 + 1 < 16117) ∧ (0 ≤ a2 ∧ a2 < 16117) ∧ (pm_R (M 14 (a2 + 1) - M 14 a2)) ∧ ((¬ M 14 (a2 + 1) - M 14 a2 = 0 → (0 ≤ M 14 a2 ∧ M 14 a2 < 85212) ∧ ((M 14 (a2 + 1) - M 14 a2 ≤ 1 → (0 ≤ pm_op (M 13 (M 14 a2)) ∧ pm_op (M 13 (M 14 a2)) < 4000) ∧ ((M 20 (pm_op (M 13 (M 14 a2))) = 0 → (0 ≤ M 13 (M 14 a2) ∧ M 13 (M 14 a2) < 4000) ∧ ((¬ M 20 (M 13 (M 14 a2)) = 0 → pm_X L (45, 8, [some (.inr (.inl 4)), some (.inl a1), some (.inl (a2 + 1)), some (.inl (M 14 (a2 + 1) - M 14 a2)), some (.inl (M 13 (M 14 a2)))], [], M) Q) ∧ (¬ (¬ M 20 (M 13 (M 14 a2)) = 0) → ((¬ M 20 (pm_op (M 13 (M 14 a2))) = 0 → pm_X L (45, 8, [some (.inr (.inl 4)), some (.inl a1), some (.inl (a2 + 1)), some (.inl (M 14 (a2 + 1) - M 14 a2)), some (.inl (M 13 (M 14 a2)))], [], M) Q) ∧ (¬ (¬ M 20 (pm_op (M 13 (M 14 a2))) = 0) → (0 ≤ M 5 4 ∧ M 5 4 < 2000) ∧ (pm_R (M 5 4 + 1)) ∧ pm_X L (45, 8, [some (.inr (.inl 4)), some (.inl a1), some (.inl (a2 + 1)), some (.inl (M 14 (a2 + 1) - M 14 a2)), some (.inl (M 13 (M 14 a2)))], [], pm_set (pm_set (pm_set (pm_set M 20 (M 13 (M 14 a2)) 1) 21 (M 13 (M 14 a2)) a2) 22 (M 5 4) (M 13 (M 14 a2))) 5 4 (M 5 4 + 1)) Q))))) ∧ (¬ (M 20 (pm_op (M 13 (M 14 a2))) = 0) → pm_X L (45, 8, [some (.inr (.inl 4)), some (.inl a2), some (.inl (a2 + 1)), some (.inl (M 14 (a2 + 1) - M 14 a2)), some (.inl (M 13 (M 14 a2)))], [], M) Q))) ∧ (¬ (M 14 (a2 + 1) - M 14 a2 ≤ 1) → pm_X L (52, 0, [some (.inr (.inl 4)), some (.inl a2), none, none, none], [], M) (pm_back (pm_X L) 45 62 [some (.inr (.inl 4)), some (.inl a1), some (.inl a2), some (.inl (M 14 (a2 + 1) - M 14 a2)), some (.inl (M 13 (M 14 a2)))] [] Q)))) ∧ (¬ (¬ M 14 (a2 + 1) - M 14 a2 = 0) → ((M 14 (a2 + 1) - M 14 a2 ≤ 1 → ((M 14 (a2 + 1) - M 14 a2 = 0 → pm_X L (45, 8, [some (.inr (.inl 4)), some (.inl a2), some (.inl (a2 + 1)), some (.inl (M 14 (a2 + 1) - M 14 a2)), some (.inl 0)], [], M) Q) ∧ (¬ (M 14 (a2 + 1) - M 14 a2 = 0) → (0 ≤ pm_op 0 ∧ pm_op 0 < 4000) ∧ ((M 20 (pm_op 0) = 0 → ((¬ M 20 0 = 0 → pm_X L (45, 8, [some (.inr (.inl 4)), some (.inl a1), some (.inl (a2 + 1)), some (.inl (M 14 (a2 + 1) - M 14 a2)), some (.inl 0)], [], M) Q) ∧ (¬ (¬ M 20 0 = 0) → ((¬ M 20 (pm_op 0) = 0 → pm_X L (45, 8, [some (.inr (.inl 4)), some (.inl a1), some (.inl (a2 + 1)), some (.inl (M 14 (a2 + 1) - M 14 a2)), some (.inl 0)], [], M) Q) ∧ (¬ (¬ M 20 (pm_op 0) = 0) → (0 ≤ M 5 4 ∧ M 5 4 < 2000) ∧ (pm_R (M 5 4 + 1)) ∧ pm_X L (45, 8, [some (.inr (.inl 4)), some (.inl a1), some (.inl (a2 + 1)), some (.inl (M 14 (a2 + 1) - M 14 a2)), some (.inl 0)], [], pm_set (pm_set (pm_set (pm_set M 20 0 1) 21 0 a2) 22 (M 5 4) 0) 5 4 (M 5 4 + 1)) Q))))) ∧ (¬ (M 20 (pm_op 0) = 0) → pm_X L (45, 8, [some (.inr (.inl 4)), some (.inl a2), some (.inl (a2 + 1)), some (.inl (M 14 (a2 + 1) - M 14 a2)), some (.inl 0)], [], M) Q))))) ∧ (¬ (M 14 (a2 + 1) - M 14 a2 ≤ 1) → pm_X L (52, 0, [some (.inr (.inl 4)), some (.inl a2), none, none, none], [], M) (pm_back (pm_X L) 45 62 [some (.inr (.inl 4)), some (.inl a1), some (.inl a2), some (.inl (M 14 (a2 + 1) - M 14 a2)), some (.inl 0)] [] Q)))))))) :
    pm_X L (45, 8, [some (.inr (.inl 4)), some (.inl a1), some (.inl a2), o3, o4], [], M) Q := by
  refine x_iload_n i_45_8 rfl rfl ?_
  refine x_aload_n i_45_9 rfl rfl ?_
  refine x_getr i_45_10 f_45_36 g_4 rfl rfl ?_
  refine x_geti (v := M 2 2) i_45_13 f_45_85 g_2 rfl (rfl) rfl ?_
  refine x_icmp (C := M 2 2 ≤ a2) i_45_16 rfl Iff.rfl rfl ⟨fun c1 => ?_, fun c1 => ?_⟩
  · replace h := h.1 c1
    refine x_iload_n i_45_121 rfl rfl ?_
    exact x_ireti i_45_122 r_45 h
  · replace h := h.2 c1
    refine x_aload_n i_45_19 rfl rfl ?_
    refine x_getr i_45_20 f_45_36 g_4 rfl rfl ?_
    refine x_iload_n i_45_23 rfl rfl ?_
    refine x_callv (as := [.inl a2]) (rest := []) i_45_24 k_45_61 rfl rfl rfl g_2 (Nat.le_of_ble_eq_true rfl) m_36 rfl ?_
    refine x_aload_n i_36_0 rfl rfl ?_
    refine x_getr i_36_1 f_36_16 g_2 rfl rfl ?_
    refine x_iload_n i_36_4 rfl rfl ?_
    refine x_iconst i_36_5 (by decide) rfl ?_
    obtain ⟨q2, h⟩ := h
    refine x_iadd i_36_6 rfl q2 ?_
    obtain ⟨q3, h⟩ := h
    refine x_iaload (v := M 14 (a2 + 1)) i_36_7 g_14 (rfl) rfl q3 ?_
    refine x_aload_n i_36_8 rfl rfl ?_
    refine x_getr i_36_9 f_36_16 g_2 rfl rfl ?_
    refine x_iload_n i_36_12 rfl rfl ?_
    obtain ⟨q4, h⟩ := h
    refine x_iaload (v := M 14 a2) i_36_13 g_14 (rfl) rfl q4 ?_
    obtain ⟨q5, h⟩ := h
    refine x_isub i_36_14 rfl q5 ?_
    refine x_ireti i_36_15 r_36 ?_
    refine x_bki rfl ?_
    refine x_istore_n i_45_27 (Nat.le_of_ble_eq_true rfl) rfl rfl ?_
    refine x_iload_n i_45_28 rfl rfl ?_
    refine x_if (C := ¬ M 14 (a2 + 1) - M 14 a2 = 0) i_45_29 rfl Iff.rfl rfl ⟨fun c6 => ?_, fun c6 => ?_⟩
    · replace h := h.1 c6
      refine x_aload_n i_45_36 rfl rfl ?_
      refine x_getr i_45_37 f_45_36 g_4 rfl rfl ?_
      refine x_getr i_45_40 f_45_88 g_2 rfl rfl ?_
      refine x_aload_n i_45_43 rfl rfl ?_
      refine x_getr i_45_44 f_45_36 g_4 rfl rfl ?_
      refine x_getr i_45_47 f_45_91 g_2 rfl rfl ?_
      refine x_iload_n i_45_50 rfl rfl ?_
      refine x_iaload (v := M 14 a2) i_45_51 g_14 (rfl) rfl q4 ?_
      obtain ⟨q7, h⟩ := h
      refine x_iaload (v := M 13 (M 14 a2)) i_45_52 g_13 (rfl) rfl q7 ?_
      refine x_istore i_45_53 (Nat.le_of_ble_eq_true rfl) rfl rfl ?_
      refine x_iload_n i_45_55 rfl rfl ?_
      refine x_iconst i_45_56 (by decide) rfl ?_
      refine x_icmp (C := M 14 (a2 + 1) - M 14 a2 ≤ 1) i_45_57 rfl Iff.rfl rfl ⟨fun c8 => ?_, fun c8 => ?_⟩
      · replace h := h.1 c8
        refine x_iload_n i_45_68 rfl rfl ?_
        refine x_ifF i_45_69 rfl c6 rfl ?_
        refine x_aload_n i_45_72 rfl rfl ?_
        refine x_getr i_45_73 f_45_12 g_4 rfl rfl ?_
        refine x_getr i_45_76 f_45_44 g_5 rfl rfl ?_
        refine x_iload i_45_79 rfl rfl ?_
        refine x_calls (as := [.inl (M 13 (M 14 a2))]) (rest := [.inr (.inl 20)]) i_45_81 k_45_97 rfl rfl rfl (Nat.le_of_ble_eq_true rfl) m_15 rfl ?_
        refine x_iload_n i_15_0 rfl rfl ?_
        refine x_iconst i_15_1 (by decide) rfl ?_
        refine x_ixor i_15_2 rfl ?_
        refine x_ireti i_15_3 r_15 ?_
        refine x_bki rfl ?_
        obtain ⟨q9, h⟩ := h
        refine x_baload (v := M 20 (pm_op (M 13 (M 14 a2)))) i_45_84 g_20 (rfl) rfl q9 ?_
        refine x_if (C := M 20 (pm_op (M 13 (M 14 a2))) = 0) i_45_85 rfl Iff.rfl rfl ⟨fun c10 => ?_, fun c10 => ?_⟩
        · replace h := h.1 c10
          refine x_aload_n i_45_93 rfl rfl ?_
          refine x_getr i_45_94 f_45_12 g_4 rfl rfl ?_
          refine x_iload i_45_97 rfl rfl ?_
          refine x_callv (as := [.inl (M 13 (M 14 a2))]) (rest := []) i_45_99 k_45_100 rfl rfl rfl g_5 (Nat.le_of_ble_eq_true rfl) m_58 rfl ?_
          refine x_aload_n i_58_0 rfl rfl ?_
          refine x_getr i_58_1 f_58_9 g_5 rfl rfl ?_
          refine x_iload_n i_58_4 rfl rfl ?_
          obtain ⟨q11, h⟩ := h
          refine x_baload (v := M 20 (M 13 (M 14 a2))) i_58_5 g_20 (rfl) rfl q11 ?_
          refine x_if (C := ¬ M 20 (M 13 (M 14 a2)) = 0) i_58_6 rfl Iff.rfl rfl ⟨fun c12 => ?_, fun c12 => ?_⟩
          · replace h := h.1 c12
            refine x_iconst i_58_25 (by decide) rfl ?_
            refine x_iretz i_58_26 r_58 (by unfold pm_bit; decide) ?_
            refine x_bki rfl ?_
            refine x_ifT i_45_102 rfl (by unfold pm_cmp; decide) ?_
            refine x_iinc i_45_115 rfl (by decide) rfl rfl q2 ?_
            refine x_goto i_45_118 rfl ?_
            exact h
          · replace h := h.2 c12
            refine x_aload_n i_58_9 rfl rfl ?_
            refine x_getr i_58_10 f_58_9 g_5 rfl rfl ?_
            refine x_iload_n i_58_13 rfl rfl ?_
            refine x_calls (as := [.inl (M 13 (M 14 a2))]) (rest := [.inr (.inl 20)]) i_58_14 k_58_33 rfl rfl rfl (Nat.le_of_ble_eq_true rfl) m_15 rfl ?_
            refine x_iload_n i_15_0 rfl rfl ?_
            refine x_iconst i_15_1 (by decide) rfl ?_
            refine x_ixor i_15_2 rfl ?_
            refine x_ireti i_15_3 r_15 ?_
            refine x_bki rfl ?_
            refine x_baload (v := M 20 (pm_op (M 13 (M 14 a2)))) i_58_17 g_20 (rfl) rfl q9 ?_
            refine x_if (C := ¬ M 20 (pm_op (M 13 (M 14 a2))) = 0) i_58_18 rfl Iff.rfl rfl ⟨fun c13 => ?_, fun c13 => ?_⟩
            · replace h := h.1 c13
              refine x_iconst i_58_25 (by decide) rfl ?_
              refine x_iretz i_58_26 r_58 (by unfold pm_bit; decide) ?_
              refine x_bki rfl ?_
              refine x_ifT i_45_102 rfl (by unfold pm_cmp; decide) ?_
              refine x_iinc i_45_115 rfl (by decide) rfl rfl q2 ?_
              refine x_goto i_45_118 rfl ?_
              exact h
            · replace h := h.2 c13
              refine x_iconst i_58_21 (by decide) rfl ?_
              refine x_goto i_58_22 rfl ?_
              refine x_iretz i_58_26 r_58 (by unfold pm_bit; decide) ?_
              refine x_bki rfl ?_
              refine x_ifF i_45_102 rfl (by unfold pm_cmp; decide) rfl ?_
              refine x_aload_n i_45_105 rfl rfl ?_
              refine x_getr i_45_106 f_45_12 g_4 rfl rfl ?_
              refine x_iload i_45_109 rfl rfl ?_
              refine x_iload_n i_45_111 rfl rfl ?_
              refine x_callv (as := [.inl (M 13 (M 14 a2)), .inl a2]) (rest := []) i_45_112 k_45_104 rfl rfl rfl g_5 (Nat.le_of_ble_eq_true rfl) m_60 rfl ?_
              refine x_aload_n i_60_0 rfl rfl ?_
              refine x_getr i_60_1 f_60_9 g_5 rfl rfl ?_
              refine x_iload_n i_60_4 rfl rfl ?_
              refine x_iconst i_60_5 (by decide) rfl ?_
              refine x_bastore i_60_6 g_20 rfl ⟨q11, by unfold pm_bit; decide⟩ ?_
              refine x_aload_n i_60_7 rfl rfl ?_
              refine x_getr i_60_8 f_60_15 g_5 rfl rfl ?_
              refine x_iload_n i_60_11 rfl rfl ?_
              refine x_iload_n i_60_12 rfl rfl ?_
              refine x_iastore i_60_13 g_21 rfl q11 ?_
              refine x_aload_n i_60_14 rfl rfl ?_
              refine x_getr i_60_15 f_60_19 g_5 rfl rfl ?_
              refine x_aload_n i_60_18 rfl rfl ?_
              refine x_geti (v := M 5 4) i_60_19 f_60_37 g_5 rfl (pm_get_c (by decide) (pm_get_c (by decide) rfl)) rfl ?_
              refine x_iload_n i_60_22 rfl rfl ?_
              obtain ⟨q14, h⟩ := h
              refine x_iastore i_60_23 g_22 rfl q14 ?_
              refine x_aload_n i_60_24 rfl rfl ?_
              refine x_dup i_60_25 rfl rfl ?_
              refine x_geti (v := M 5 4) i_60_26 f_60_37 g_5 rfl (pm_get_c (by decide) (pm_get_c (by decide) (pm_get_c (by decide) rfl))) rfl ?_
              refine x_iconst i_60_29 (by decide) rfl ?_
              obtain ⟨q15, h⟩ := h
              refine x_iadd i_60_30 rfl q15 ?_
              refine x_puti i_60_31 f_60_37 g_5 rfl rfl ?_
              refine x_ret i_60_34 r_60 ?_
              refine x_bkv rfl ?_
              refine x_iinc i_45_115 rfl (by decide) rfl rfl q2 ?_
              refine x_goto i_45_118 rfl ?_
              exact h
        · replace h := h.2 c10
          refine x_iload_n i_45_88 rfl rfl ?_
          refine x_istore_n i_45_89 (Nat.le_of_ble_eq_true rfl) rfl rfl ?_
          refine x_goto i_45_90 rfl ?_
          refine x_iinc i_45_115 rfl (by decide) rfl rfl q2 ?_
          refine x_goto i_45_118 rfl ?_
          exact h
      · replace h := h.2 c8
        refine x_aload_n i_45_60 rfl rfl ?_
        refine x_iload_n i_45_61 rfl rfl ?_
        refine x_callv (as := [.inl a2]) (rest := []) i_45_62 k_45_94 rfl rfl rfl g_4 (Nat.le_of_ble_eq_true rfl) m_52 rfl h
    · replace h := h.2 c6
      refine x_iconst i_45_32 (by decide) rfl ?_
      refine x_goto i_45_33 rfl ?_
      refine x_istore i_45_53 (Nat.le_of_ble_eq_true rfl) rfl rfl ?_
      refine x_iload_n i_45_55 rfl rfl ?_
      refine x_iconst i_45_56 (by decide) rfl ?_
      refine x_icmp (C := M 14 (a2 + 1) - M 14 a2 ≤ 1) i_45_57 rfl Iff.rfl rfl ⟨fun c16 => ?_, fun c16 => ?_⟩
      · replace h := h.1 c16
        refine x_iload_n i_45_68 rfl rfl ?_
        refine x_if (C := M 14 (a2 + 1) - M 14 a2 = 0) i_45_69 rfl Iff.rfl rfl ⟨fun c17 => ?_, fun c17 => ?_⟩
        · replace h := h.1 c17
          refine x_iload_n i_45_88 rfl rfl ?_
          refine x_istore_n i_45_89 (Nat.le_of_ble_eq_true rfl) rfl rfl ?_
          refine x_goto i_45_90 rfl ?_
          refine x_iinc i_45_115 rfl (by decide) rfl rfl q2 ?_
          refine x_goto i_45_118 rfl ?_
          exact h
        · replace h := h.2 c17
          refine x_aload_n i_45_72 rfl rfl ?_
          refine x_getr i_45_73 f_45_12 g_4 rfl rfl ?_
          refine x_getr i_45_76 f_45_44 g_5 rfl rfl ?_
          refine x_iload i_45_79 rfl rfl ?_
          refine x_calls (as := [.inl 0]) (rest := [.inr (.inl 20)]) i_45_81 k_45_97 rfl rfl rfl (Nat.le_of_ble_eq_true rfl) m_15 rfl ?_
          refine x_iload_n i_15_0 rfl rfl ?_
          refine x_iconst i_15_1 (by decide) rfl ?_
          refine x_ixor i_15_2 rfl ?_
          refine x_ireti i_15_3 r_15 ?_
          refine x_bki rfl ?_
          obtain ⟨q18, h⟩ := h
          refine x_baload (v := M 20 (pm_op 0)) i_45_84 g_20 (rfl) rfl q18 ?_
          refine x_if (C := M 20 (pm_op 0) = 0) i_45_85 rfl Iff.rfl rfl ⟨fun c19 => ?_, fun c19 => ?_⟩
          · replace h := h.1 c19
            refine x_aload_n i_45_93 rfl rfl ?_
            refine x_getr i_45_94 f_45_12 g_4 rfl rfl ?_
            refine x_iload i_45_97 rfl rfl ?_
            refine x_callv (as := [.inl 0]) (rest := []) i_45_99 k_45_100 rfl rfl rfl g_5 (Nat.le_of_ble_eq_true rfl) m_58 rfl ?_
            refine x_aload_n i_58_0 rfl rfl ?_
            refine x_getr i_58_1 f_58_9 g_5 rfl rfl ?_
            refine x_iload_n i_58_4 rfl rfl ?_
            refine x_baload (v := M 20 0) i_58_5 g_20 (rfl) rfl (by decide) ?_
            refine x_if (C := ¬ M 20 0 = 0) i_58_6 rfl Iff.rfl rfl ⟨fun c20 => ?_, fun c20 => ?_⟩
            · replace h := h.1 c20
              refine x_iconst i_58_25 (by decide) rfl ?_
              refine x_iretz i_58_26 r_58 (by unfold pm_bit; decide) ?_
              refine x_bki rfl ?_
              refine x_ifT i_45_102 rfl (by unfold pm_cmp; decide) ?_
              refine x_iinc i_45_115 rfl (by decide) rfl rfl q2 ?_
              refine x_goto i_45_118 rfl ?_
              exact h
            · replace h := h.2 c20
              refine x_aload_n i_58_9 rfl rfl ?_
              refine x_getr i_58_10 f_58_9 g_5 rfl rfl ?_
              refine x_iload_n i_58_13 rfl rfl ?_
              refine x_calls (as := [.inl 0]) (rest := [.inr (.inl 20)]) i_58_14 k_58_33 rfl rfl rfl (Nat.le_of_ble_eq_true rfl) m_15 rfl ?_
              refine x_iload_n i_15_0 rfl rfl ?_
              refine x_iconst i_15_1 (by decide) rfl ?_
              refine x_ixor i_15_2 rfl ?_
              refine x_ireti i_15_3 r_15 ?_
              refine x_bki rfl ?_
              refine x_baload (v := M 20 (pm_op 0)) i_58_17 g_20 (rfl) rfl q18 ?_
              refine x_if (C := ¬ M 20 (pm_op 0) = 0) i_58_18 rfl Iff.rfl rfl ⟨fun c21 => ?_, fun c21 => ?_⟩
              · replace h := h.1 c21
                refine x_iconst i_58_25 (by decide) rfl ?_
                refine x_iretz i_58_26 r_58 (by unfold pm_bit; decide) ?_
                refine x_bki rfl ?_
                refine x_ifT i_45_102 rfl (by unfold pm_cmp; decide) ?_
                refine x_iinc i_45_115 rfl (by decide) rfl rfl q2 ?_
                refine x_goto i_45_118 rfl ?_
                exact h
              · replace h := h.2 c21
                refine x_iconst i_58_21 (by decide) rfl ?_
                refine x_goto i_58_22 rfl ?_
                refine x_iretz i_58_26 r_58 (by unfold pm_bit; decide) ?_
                refine x_bki rfl ?_
                refine x_ifF i_45_102 rfl (by unfold pm_cmp; decide) rfl ?_
                refine x_aload_n i_45_105 rfl rfl ?_
                refine x_getr i_45_106 f_45_12 g_4 rfl rfl ?_
                refine x_iload i_45_109 rfl rfl ?_
                refine x_iload_n i_45_111 rfl rfl ?_
                refine x_callv (as := [.inl 0, .inl a2]) (rest := []) i_45_112 k_45_104 rfl rfl rfl g_5 (Nat.le_of_ble_eq_true rfl) m_60 rfl ?_
                refine x_aload_n i_60_0 rfl rfl ?_
                refine x_getr i_60_1 f_60_9 g_5 rfl rfl ?_
                refine x_iload_n i_60_4 rfl rfl ?_
                refine x_iconst i_60_5 (by decide) rfl ?_
                refine x_bastore i_60_6 g_20 rfl ⟨by decide, by unfold pm_bit; decide⟩ ?_
                refine x_aload_n i_60_7 rfl rfl ?_
                refine x_getr i_60_8 f_60_15 g_5 rfl rfl ?_
                refine x_iload_n i_60_11 rfl rfl ?_
                refine x_iload_n i_60_12 rfl rfl ?_
                refine x_iastore i_60_13 g_21 rfl (by decide) ?_
                refine x_aload_n i_60_14 rfl rfl ?_
                refine x_getr i_60_15 f_60_19 g_5 rfl rfl ?_
                refine x_aload_n i_60_18 rfl rfl ?_
                refine x_geti (v := M 5 4) i_60_19 f_60_37 g_5 rfl (pm_get_c (by decide) (pm_get_c (by decide) rfl)) rfl ?_
                refine x_iload_n i_60_22 rfl rfl ?_
                obtain ⟨q22, h⟩ := h
                refine x_iastore i_60_23 g_22 rfl q22 ?_
                refine x_aload_n i_60_24 rfl rfl ?_
                refine x_dup i_60_25 rfl rfl ?_
                refine x_geti (v := M 5 4) i_60_26 f_60_37 g_5 rfl (pm_get_c (by decide) (pm_get_c (by decide) (pm_get_c (by decide) rfl))) rfl ?_
                refine x_iconst i_60_29 (by decide) rfl ?_
                obtain ⟨q23, h⟩ := h
                refine x_iadd i_60_30 rfl q23 ?_
                refine x_puti i_60_31 f_60_37 g_5 rfl rfl ?_
                refine x_ret i_60_34 r_60 ?_
                refine x_bkv rfl ?_
                refine x_iinc i_45_115 rfl (by decide) rfl rfl q2 ?_
                refine x_goto i_45_118 rfl ?_
                exact h
          · replace h := h.2 c19
            refine x_iload_n i_45_88 rfl rfl ?_
            refine x_istore_n i_45_89 (Nat.le_of_ble_eq_true rfl) rfl rfl ?_
            refine x_goto i_45_90 rfl ?_
            refine x_iinc i_45_115 rfl (by decide) rfl rfl q2 ?_
            refine x_goto i_45_118 rfl ?_
            exact h
      · replace h := h.2 c16
        refine x_aload_n i_45_60 rfl rfl ?_
        refine x_iload_n i_45_61 rfl rfl ?_
        refine x_callv (as := [.inl a2]) (rest := []) i_45_62 k_45_94 rfl rfl rfl g_4 (Nat.le_of_ble_eq_true rfl) m_52 rfl h
/-! GateBench$Search.takeUpClauses at 65 -/
theorem s_45_65 {L : Nat} {M : pm_M} {Q : pm_P} {a1 a2 a3 a4 : Int}
    (h : (pm_R (a2 + 1)) ∧ pm_X L (45, 8, [some (.inr (.inl 4)), some (.inl a1), some (.inl (a2 + 1)), some (.inl a3), some (.inl a4)], [], M) Q) :
    pm_X L (45, 65, [some (.inr (.inl 4)), some (.inl a1), some (.inl a2), some (.inl a3), some (.inl a4)], [], M) Q := by
  refine x_goto i_45_65 rfl ?_
  obtain ⟨q1, h⟩ := h
  refine x_iinc i_45_115 rfl (by decide) rfl rfl q1 ?_
  refine x_goto i_45_118 rfl ?_
  exact h
/-! GateBench$Search.tryInputs at 0 -/
theorem s_46_0 {L : Nat} {M : pm_M} {Q : pm_P}
    (h : pm_X L (47, 0, [some (.inr (.inl 4)), none], [], M) (pm_back (pm_X L) 46 1 [some (.inr (.inl 4)), none, none, none] [] Q)) :
    pm_X L (46, 0, [some (.inr (.inl 4)), none, none, none], [], M) Q := by
  refine x_aload_n i_46_0 rfl rfl ?_
  refine x_callv (as := []) (rest := []) i_46_1 k_46_108 rfl rfl rfl g_4 (Nat.le_of_ble_eq_true rfl) m_47 rfl h
/-! GateBench$Search.tryInputs at 4 -/
theorem s_46_4 {L : Nat} {M : pm_M} {Q : pm_P} {r : Int}
    (h : pm_X L (46, 7, [some (.inr (.inl 4)), some (.inl r), some (.inl 0), none], [], M) Q) :
    pm_X L (46, 4, [some (.inr (.inl 4)), none, none, none], [.inl r], M) Q := by
  refine x_istore_n i_46_4 (Nat.le_of_ble_eq_true rfl) rfl rfl ?_
  refine x_iconst i_46_5 (by decide) rfl ?_
  refine x_istore_n i_46_6 (Nat.le_of_ble_eq_true rfl) rfl rfl ?_
  exact h
/-! GateBench$Search.tryInputs at 7 -/
theorem s_46_7 {L : Nat} {M : pm_M} {Q : pm_P} {a1 a2 : Int} {o3 : Option pm_V}
    (h : ((M 1 7 ≤ a2 → Q (.inl (some (.inl a1))) M) ∧ (¬ (M 1 7 ≤ a2) → ((¬ a1 = -1 → Q (.inl (some (.inl a1))) M) ∧ (¬ (¬ a1 = -1) → (0 ≤ a2 ∧ a2 < 12) ∧ (pm_R (2 * M 12 a2)) ∧ (0 ≤ 2 * M 12 a2 ∧ 2 * M 12 a2 < 4000) ∧ ((¬ M 20 (2 * M 12 a2) = 0 → (pm_R (a2 + 1)) ∧ pm_X L (46, 7, [some (.inr (.inl 4)), some (.inl a1), some (.inl (a2 + 1)), some (.inl (2 * M 12 a2))], [], M) Q) ∧ (¬ (¬ M 20 (2 * M 12 a2) = 0) → (0 ≤ pm_op (2 * M 12 a2) ∧ pm_op (2 * M 12 a2) < 4000) ∧ ((¬ M 20 (pm_op (2 * M 12 a2)) = 0 → (pm_R (a2 + 1)) ∧ pm_X L (46, 7, [some (.inr (.inl 4)), some (.inl a1), some (.inl (a2 + 1)), some (.inl (2 * M 12 a2))], [], M) Q) ∧ (¬ (¬ M 20 (pm_op (2 * M 12 a2)) = 0) → (0 ≤ M 5 5 ∧ M 5 5 < 12) ∧ (pm_R (M 5 5 + 1)) ∧ (0 ≤ M 5 4 ∧ M 5 4 < 2000) ∧ (pm_R (M 5 4 + 1)) ∧ pm_X L (47, 0, [some (.inr (.inl 4)), none], [], pm_set (pm_set (pm_set (pm_set (pm_set (pm_set M 23 (M 5 5) (M 5 4)) 5 5 (M 5 5 + 1)) 20 (pm_op (2 * M 12 a2)) 1) 21 (pm_op (2 * M 12 a2)) (-1)) 22 (M 5 4) (pm_op (2 * M 12 a2))) 5 4 (M 5 4 + 1)) (pm_back (pm_X L) 46 59 [some (.inr (.inl 4)), some (.inl a1), some (.inl a2), some (.inl (2 * M 12 a2))] [] Q)))))))))) :
    pm_X L (46, 7, [some (.inr (.inl 4)), some (.inl a1), some (.inl a2), o3], [], M) Q := by
  refine x_iload_n i_46_7 rfl rfl ?_
  refine x_aload_n i_46_8 rfl rfl ?_
  refine x_getr i_46_9 f_46_32 g_4 rfl rfl ?_
  refine x_geti (v := M 1 7) i_46_12 f_46_111 g_1 rfl (rfl) rfl ?_
  refine x_icmp (C := M 1 7 ≤ a2) i_46_15 rfl Iff.rfl rfl ⟨fun c1 => ?_, fun c1 => ?_⟩
  · replace h := h.1 c1
    refine x_iload_n i_46_69 rfl rfl ?_
    exact x_ireti i_46_70 r_46 h
  · replace h := h.2 c1
    refine x_iload_n i_46_18 rfl rfl ?_
    refine x_iconst i_46_19 (by decide) rfl ?_
    refine x_icmp (C := ¬ a1 = -1) i_46_20 rfl Iff.rfl rfl ⟨fun c2 => ?_, fun c2 => ?_⟩
    · replace h := h.1 c2
      refine x_iload_n i_46_69 rfl rfl ?_
      exact x_ireti i_46_70 r_46 h
    · replace h := h.2 c2
      refine x_aload_n i_46_23 rfl rfl ?_
      refine x_getr i_46_24 f_46_32 g_4 rfl rfl ?_
      refine x_getr i_46_27 f_46_114 g_1 rfl rfl ?_
      refine x_iload_n i_46_30 rfl rfl ?_
      obtain ⟨q3, h⟩ := h
      refine x_iaload (v := M 12 a2) i_46_31 g_12 (rfl) rfl q3 ?_
      refine x_calls (as := [.inl (M 12 a2)]) (rest := []) i_46_32 k_46_47 rfl rfl rfl (Nat.le_of_ble_eq_true rfl) m_14 rfl ?_
      refine x_iconst i_14_0 (by decide) rfl ?_
      refine x_iload_n i_14_1 rfl rfl ?_
      obtain ⟨q4, h⟩ := h
      refine x_imul i_14_2 rfl q4 ?_
      refine x_ireti i_14_3 r_14 ?_
      refine x_bki rfl ?_
      refine x_istore_n i_46_35 (Nat.le_of_ble_eq_true rfl) rfl rfl ?_
      refine x_aload_n i_46_36 rfl rfl ?_
      refine x_getr i_46_37 f_46_12 g_4 rfl rfl ?_
      refine x_iload_n i_46_40 rfl rfl ?_
      refine x_callv (as := [.inl (2 * M 12 a2)]) (rest := []) i_46_41 k_46_100 rfl rfl rfl g_5 (Nat.le_of_ble_eq_true rfl) m_58 rfl ?_
      refine x_aload_n i_58_0 rfl rfl ?_
      refine x_getr i_58_1 f_58_9 g_5 rfl rfl ?_
      refine x_iload_n i_58_4 rfl rfl ?_
      obtain ⟨q5, h⟩ := h
      refine x_baload (v := M 20 (2 * M 12 a2)) i_58_5 g_20 (rfl) rfl q5 ?_
      refine x_if (C := ¬ M 20 (2 * M 12 a2) = 0) i_58_6 rfl Iff.rfl rfl ⟨fun c6 => ?_, fun c6 => ?_⟩
      · replace h := h.1 c6
        refine x_iconst i_58_25 (by decide) rfl ?_
        refine x_iretz i_58_26 r_58 (by unfold pm_bit; decide) ?_
        refine x_bki rfl ?_
        refine x_ifT i_46_44 rfl (by unfold pm_cmp; decide) ?_
        obtain ⟨q7, h⟩ := h
        refine x_iinc i_46_63 rfl (by decide) rfl rfl q7 ?_
        refine x_goto i_46_66 rfl ?_
        exact h
      · replace h := h.2 c6
        refine x_aload_n i_58_9 rfl rfl ?_
        refine x_getr i_58_10 f_58_9 g_5 rfl rfl ?_
        refine x_iload_n i_58_13 rfl rfl ?_
        refine x_calls (as := [.inl (2 * M 12 a2)]) (rest := [.inr (.inl 20)]) i_58_14 k_58_33 rfl rfl rfl (Nat.le_of_ble_eq_true rfl) m_15 rfl ?_
        refine x_iload_n i_15_0 rfl rfl ?_
        refine x_iconst i_15_1 (by decide) rfl ?_
        refine x_ixor i_15_2 rfl ?_
        refine x_ireti i_15_3 r_15 ?_
        refine x_bki rfl ?_
        obtain ⟨q8, h⟩ := h
        refine x_baload (v := M 20 (pm_op (2 * M 12 a2))) i_58_17 g_20 (rfl) rfl q8 ?_
        refine x_if (C := ¬ M 20 (pm_op (2 * M 12 a2)) = 0) i_58_18 rfl Iff.rfl rfl ⟨fun c9 => ?_, fun c9 => ?_⟩
        · replace h := h.1 c9
          refine x_iconst i_58_25 (by decide) rfl ?_
          refine x_iretz i_58_26 r_58 (by unfold pm_bit; decide) ?_
          refine x_bki rfl ?_
          refine x_ifT i_46_44 rfl (by unfold pm_cmp; decide) ?_
          obtain ⟨q10, h⟩ := h
          refine x_iinc i_46_63 rfl (by decide) rfl rfl q10 ?_
          refine x_goto i_46_66 rfl ?_
          exact h
        · replace h := h.2 c9
          refine x_iconst i_58_21 (by decide) rfl ?_
          refine x_goto i_58_22 rfl ?_
          refine x_iretz i_58_26 r_58 (by unfold pm_bit; decide) ?_
          refine x_bki rfl ?_
          refine x_ifF i_46_44 rfl (by unfold pm_cmp; decide) rfl ?_
          refine x_aload_n i_46_47 rfl rfl ?_
          refine x_getr i_46_48 f_46_12 g_4 rfl rfl ?_
          refine x_iload_n i_46_51 rfl rfl ?_
          refine x_calls (as := [.inl (2 * M 12 a2)]) (rest := [.inr (.inl 5)]) i_46_52 k_46_97 rfl rfl rfl (Nat.le_of_ble_eq_true rfl) m_15 rfl ?_
          refine x_iload_n i_15_0 rfl rfl ?_
          refine x_iconst i_15_1 (by decide) rfl ?_
          refine x_ixor i_15_2 rfl ?_
          refine x_ireti i_15_3 r_15 ?_
          refine x_bki rfl ?_
          refine x_callv (as := [.inl (pm_op (2 * M 12 a2))]) (rest := []) i_46_55 k_46_117 rfl rfl rfl g_5 (Nat.le_of_ble_eq_true rfl) m_59 rfl ?_
          refine x_aload_n i_59_0 rfl rfl ?_
          refine x_getr i_59_1 f_59_22 g_5 rfl rfl ?_
          refine x_aload_n i_59_4 rfl rfl ?_
          refine x_geti (v := M 5 5) i_59_5 f_59_29 g_5 rfl (rfl) rfl ?_
          refine x_aload_n i_59_8 rfl rfl ?_
          refine x_geti (v := M 5 4) i_59_9 f_59_37 g_5 rfl (rfl) rfl ?_
          obtain ⟨q11, h⟩ := h
          refine x_iastore i_59_12 g_23 rfl q11 ?_
          refine x_aload_n i_59_13 rfl rfl ?_
          refine x_dup i_59_14 rfl rfl ?_
          refine x_geti (v := M 5 5) i_59_15 f_59_29 g_5 rfl (pm_get_c (by decide) rfl) rfl ?_
          refine x_iconst i_59_18 (by decide) rfl ?_
          obtain ⟨q12, h⟩ := h
          refine x_iadd i_59_19 rfl q12 ?_
          refine x_puti i_59_20 f_59_29 g_5 rfl rfl ?_
          refine x_aload_n i_59_23 rfl rfl ?_
          refine x_iload_n i_59_24 rfl rfl ?_
          refine x_iconst i_59_25 (by decide) rfl ?_
          refine x_callv (as := [.inl (pm_op (2 * M 12 a2)), .inl (-1)]) (rest := []) i_59_26 k_59_40 rfl rfl rfl g_5 (Nat.le_of_ble_eq_true rfl) m_60 rfl ?_
          refine x_aload_n i_60_0 rfl rfl ?_
          refine x_getr i_60_1 f_60_9 g_5 rfl rfl ?_
          refine x_iload_n i_60_4 rfl rfl ?_
          refine x_iconst i_60_5 (by decide) rfl ?_
          refine x_bastore i_60_6 g_20 rfl ⟨q8, by unfold pm_bit; decide⟩ ?_
          refine x_aload_n i_60_7 rfl rfl ?_
          refine x_getr i_60_8 f_60_15 g_5 rfl rfl ?_
          refine x_iload_n i_60_11 rfl rfl ?_
          refine x_iload_n i_60_12 rfl rfl ?_
          refine x_iastore i_60_13 g_21 rfl q8 ?_
          refine x_aload_n i_60_14 rfl rfl ?_
          refine x_getr i_60_15 f_60_19 g_5 rfl rfl ?_
          refine x_aload_n i_60_18 rfl rfl ?_
          refine x_geti (v := M 5 4) i_60_19 f_60_37 g_5 rfl (pm_get_c (by decide) (pm_get_c (by decide) (pm_get_j (by decide) (pm_get_c (by decide) rfl)))) rfl ?_
          refine x_iload_n i_60_22 rfl rfl ?_
          obtain ⟨q13, h⟩ := h
          refine x_iastore i_60_23 g_22 rfl q13 ?_
          refine x_aload_n i_60_24 rfl rfl ?_
          refine x_dup i_60_25 rfl rfl ?_
          refine x_geti (v := M 5 4) i_60_26 f_60_37 g_5 rfl (pm_get_c (by decide) (pm_get_c (by decide) (pm_get_c (by decide) (pm_get_j (by decide) (pm_get_c (by decide) rfl))))) rfl ?_
          refine x_iconst i_60_29 (by decide) rfl ?_
          obtain ⟨q14, h⟩ := h
          refine x_iadd i_60_30 rfl q14 ?_
          refine x_puti i_60_31 f_60_37 g_5 rfl rfl ?_
          refine x_ret i_60_34 r_60 ?_
          refine x_bkv rfl ?_
          refine x_ret i_59_29 r_59 ?_
          refine x_bkv rfl ?_
          refine x_aload_n i_46_58 rfl rfl ?_
          refine x_callv (as := []) (rest := []) i_46_59 k_46_108 rfl rfl rfl g_4 (Nat.le_of_ble_eq_true rfl) m_47 rfl h
/-! GateBench$Search.tryInputs at 62 -/
theorem s_46_62 {L : Nat} {M : pm_M} {Q : pm_P} {a1 a2 a3 r : Int}
    (h : (pm_R (a2 + 1)) ∧ pm_X L (46, 7, [some (.inr (.inl 4)), some (.inl r), some (.inl (a2 + 1)), some (.inl a3)], [], M) Q) :
    pm_X L (46, 62, [some (.inr (.inl 4)), some (.inl a1), some (.inl a2), some (.inl a3)], [.inl r], M) Q := by
  refine x_istore_n i_46_62 (Nat.le_of_ble_eq_true rfl) rfl rfl ?_
  obtain ⟨q1, h⟩ := h
  refine x_iinc i_46_63 rfl (by decide) rfl rfl q1 ?_
  refine x_goto i_46_66 rfl ?_
  exact h
/-! GateBench$Search.followAll at 0 -/
theorem s_47_0 {L : Nat} {M : pm_M} {Q : pm_P}
    (h : pm_X L (47, 2, [some (.inr (.inl 4)), some (.inl (-1))], [], M) Q) :
    pm_X L (47, 0, [some (.inr (.inl 4)), none], [], M) Q := by
  refine x_iconst i_47_0 (by decide) rfl ?_
  refine x_istore_n i_47_1 (Nat.le_of_ble_eq_true rfl) rfl rfl ?_
  exact h
/-! GateBench$Search.followAll at 2 -/
theorem s_47_2 {L : Nat} {M : pm_M} {Q : pm_P} {a1 : Int}
    (h : ((M 5 4 ≤ M 4 9 → Q (.inl (some (.inl a1))) M) ∧ (¬ (M 5 4 ≤ M 4 9) → ((2000 ≤ M 4 9 → Q (.inl (some (.inl a1))) M) ∧ (¬ (2000 ≤ M 4 9) → ((¬ a1 = -1 → Q (.inl (some (.inl a1))) M) ∧ (¬ (¬ a1 = -1) → (0 ≤ M 4 9 ∧ M 4 9 < 2000) ∧ pm_X L (48, 0, [some (.inr (.inl 4)), some (.inl (pm_op (M 22 (M 4 9)))), none, none, none, none, none, none, none], [], M) (pm_back (pm_X L) 47 47 [some (.inr (.inl 4)), some (.inl a1)] [] Q)))))))) :
    pm_X L (47, 2, [some (.inr (.inl 4)), some (.inl a1)], [], M) Q := by
  refine x_aload_n i_47_2 rfl rfl ?_
  refine x_geti (v := M 4 9) i_47_3 f_47_73 g_4 rfl (rfl) rfl ?_
  refine x_aload_n i_47_6 rfl rfl ?_
  refine x_getr i_47_7 f_47_12 g_4 rfl rfl ?_
  refine x_geti (v := M 5 4) i_47_10 f_47_120 g_5 rfl (rfl) rfl ?_
  refine x_icmp (C := M 5 4 ≤ M 4 9) i_47_13 rfl Iff.rfl rfl ⟨fun c1 => ?_, fun c1 => ?_⟩
  · replace h := h.1 c1
    refine x_iload_n i_47_64 rfl rfl ?_
    exact x_ireti i_47_65 r_47 h
  · replace h := h.2 c1
    refine x_aload_n i_47_16 rfl rfl ?_
    refine x_geti (v := M 4 9) i_47_17 f_47_73 g_4 rfl (rfl) rfl ?_
    refine x_sipush i_47_20 (by decide) rfl ?_
    refine x_icmp (C := 2000 ≤ M 4 9) i_47_23 rfl Iff.rfl rfl ⟨fun c2 => ?_, fun c2 => ?_⟩
    · replace h := h.1 c2
      refine x_iload_n i_47_64 rfl rfl ?_
      exact x_ireti i_47_65 r_47 h
    · replace h := h.2 c2
      refine x_iload_n i_47_26 rfl rfl ?_
      refine x_iconst i_47_27 (by decide) rfl ?_
      refine x_icmp (C := ¬ a1 = -1) i_47_28 rfl Iff.rfl rfl ⟨fun c3 => ?_, fun c3 => ?_⟩
      · replace h := h.1 c3
        refine x_iload_n i_47_64 rfl rfl ?_
        exact x_ireti i_47_65 r_47 h
      · replace h := h.2 c3
        refine x_aload_n i_47_31 rfl rfl ?_
        refine x_aload_n i_47_32 rfl rfl ?_
        refine x_getr i_47_33 f_47_12 g_4 rfl rfl ?_
        refine x_getr i_47_36 f_47_123 g_5 rfl rfl ?_
        refine x_aload_n i_47_39 rfl rfl ?_
        refine x_geti (v := M 4 9) i_47_40 f_47_73 g_4 rfl (rfl) rfl ?_
        obtain ⟨q4, h⟩ := h
        refine x_iaload (v := M 22 (M 4 9)) i_47_43 g_22 (rfl) rfl q4 ?_
        refine x_calls (as := [.inl (M 22 (M 4 9))]) (rest := [.inr (.inl 4)]) i_47_44 k_47_97 rfl rfl rfl (Nat.le_of_ble_eq_true rfl) m_15 rfl ?_
        refine x_iload_n i_15_0 rfl rfl ?_
        refine x_iconst i_15_1 (by decide) rfl ?_
        refine x_ixor i_15_2 rfl ?_
        refine x_ireti i_15_3 r_15 ?_
        refine x_bki rfl ?_
        refine x_callv (as := [.inl (pm_op (M 22 (M 4 9)))]) (rest := []) i_47_47 k_47_126 rfl rfl rfl g_4 (Nat.le_of_ble_eq_true rfl) m_48 rfl h
/-! GateBench$Search.followAll at 50 -/
theorem s_47_50 {L : Nat} {M : pm_M} {Q : pm_P} {a1 r : Int}
    (h : (pm_R (M 4 9 + 1)) ∧ pm_X L (47, 2, [some (.inr (.inl 4)), some (.inl r)], [], pm_set M 4 9 (M 4 9 + 1)) Q) :
    pm_X L (47, 50, [some (.inr (.inl 4)), some (.inl a1)], [.inl r], M) Q := by
  refine x_istore_n i_47_50 (Nat.le_of_ble_eq_true rfl) rfl rfl ?_
  refine x_aload_n i_47_51 rfl rfl ?_
  refine x_dup i_47_52 rfl rfl ?_
  refine x_geti (v := M 4 9) i_47_53 f_47_73 g_4 rfl (rfl) rfl ?_
  refine x_iconst i_47_56 (by decide) rfl ?_
  obtain ⟨q1, h⟩ := h
  refine x_iadd i_47_57 rfl q1 ?_
  refine x_puti i_47_58 f_47_73 g_4 rfl rfl ?_
  refine x_goto i_47_61 rfl ?_
  exact h
/-! GateBench$Search.leaveFailing at 0 -/
theorem s_48_0 {L : Nat} {M : pm_M} {Q : pm_P} {a1 : Int}
    (h : (0 ≤ a1 ∧ a1 < 4000) ∧ pm_X L (48, 12, [some (.inr (.inl 4)), some (.inl a1), some (.inl (-1)), some (.inl (M 16 a1)), some (.inl 0), none, none, none, none], [], M) Q) :
    pm_X L (48, 0, [some (.inr (.inl 4)), some (.inl a1), none, none, none, none, none, none, none], [], M) Q := by
  refine x_iconst i_48_0 (by decide) rfl ?_
  refine x_istore_n i_48_1 (Nat.le_of_ble_eq_true rfl) rfl rfl ?_
  refine x_aload_n i_48_2 rfl rfl ?_
  refine x_getr i_48_3 f_48_18 g_4 rfl rfl ?_
  refine x_iload_n i_48_6 rfl rfl ?_
  obtain ⟨q1, h⟩ := h
  refine x_iaload (v := M 16 a1) i_48_7 g_16 (rfl) rfl q1 ?_
  refine x_istore_n i_48_8 (Nat.le_of_ble_eq_true rfl) rfl rfl ?_
  refine x_iconst i_48_9 (by decide) rfl ?_
  refine x_istore i_48_10 (Nat.le_of_ble_eq_true rfl) rfl rfl ?_
  exact h
/-! GateBench$Search.leaveFailing at 12 -/
theorem s_48_12 {L : Nat} {M : pm_M} {Q : pm_P} {a1 a2 a3 a4 : Int} {o5 o6 o7 o8 : Option pm_V}
    (h : ((32232 ≤ a4 → Q (.inl (some (.inl (-1)))) M) ∧ (¬ (32232 ≤ a4) → ((a3 = -1 → Q (.inl (some (.inl (-1)))) M) ∧ (¬ (a3 = -1) → (0 ≤ a3 ∧ a3 < 32232) ∧ (0 ≤ a3 / 2 ∧ a3 / 2 < 16117) ∧ (pm_R (M 14 (a3 / 2) + ((pm_op a3) % 2))) ∧ (0 ≤ M 14 (a3 / 2) + ((pm_op a3) % 2) ∧ M 14 (a3 / 2) + ((pm_op a3) % 2) < 85212) ∧ (0 ≤ M 13 (M 14 (a3 / 2) + ((pm_op a3) % 2)) ∧ M 13 (M 14 (a3 / 2) + ((pm_op a3) % 2)) < 4000) ∧ ((M 20 (M 13 (M 14 (a3 / 2) + ((pm_op a3) % 2))) = 0 → pm_X L (49, 0, [some (.inr (.inl 4)), some (.inl (a3 / 2)), none], [], M) (pm_back (pm_X L) 48 87 [some (.inr (.inl 4)), some (.inl a1), some (.inl a2), some (.inl a3), some (.inl a4), some (.inl (M 17 a3)), some (.inl (a3 / 2)), some (.inl (M 13 (M 14 (a3 / 2) + ((pm_op a3) % 2)))), o8] [] Q)) ∧ (¬ (M 20 (M 13 (M 14 (a3 / 2) + ((pm_op a3) % 2))) = 0) → pm_X L (48, 90, [some (.inr (.inl 4)), some (.inl a1), some (.inl a2), some (.inl a3), some (.inl a4), some (.inl (M 17 a3)), some (.inl (a3 / 2)), some (.inl (M 13 (M 14 (a3 / 2) + ((pm_op a3) % 2)))), o8], [.inl (-1)], M) Q))))))) :
    pm_X L (48, 12, [some (.inr (.inl 4)), some (.inl a1), some (.inl a2), some (.inl a3), some (.inl a4), o5, o6, o7, o8], [], M) Q := by
  refine x_iload i_48_12 rfl rfl ?_
  refine x_aload_n i_48_14 rfl rfl ?_
  refine x_getr i_48_15 f_48_22 g_4 rfl rfl ?_
  refine x_alen (n := 32232) i_48_18 g_17 rfl (by decide) ?_
  refine x_icmp (C := 32232 ≤ a4) i_48_19 rfl Iff.rfl rfl ⟨fun c1 => ?_, fun c1 => ?_⟩
  · replace h := h.1 c1
    refine x_iconst i_48_170 (by decide) rfl ?_
    exact x_ireti i_48_171 r_48 h
  · replace h := h.2 c1
    refine x_iload_n i_48_22 rfl rfl ?_
    refine x_iconst i_48_23 (by decide) rfl ?_
    refine x_icmp (C := a3 = -1) i_48_24 rfl Iff.rfl rfl ⟨fun c2 => ?_, fun c2 => ?_⟩
    · replace h := h.1 c2
      refine x_iconst i_48_170 (by decide) rfl ?_
      exact x_ireti i_48_171 r_48 h
    · replace h := h.2 c2
      refine x_aload_n i_48_27 rfl rfl ?_
      refine x_getr i_48_28 f_48_22 g_4 rfl rfl ?_
      refine x_iload_n i_48_31 rfl rfl ?_
      obtain ⟨q3, h⟩ := h
      refine x_iaload (v := M 17 a3) i_48_32 g_17 (rfl) rfl q3 ?_
      refine x_istore i_48_33 (Nat.le_of_ble_eq_true rfl) rfl rfl ?_
      refine x_iload_n i_48_35 rfl rfl ?_
      refine x_iconst i_48_36 (by decide) rfl ?_
      refine x_ishr i_48_37 rfl ?_
      refine x_istore i_48_38 (Nat.le_of_ble_eq_true rfl) rfl rfl ?_
      refine x_aload_n i_48_40 rfl rfl ?_
      refine x_getr i_48_41 f_48_36 g_4 rfl rfl ?_
      refine x_getr i_48_44 f_48_88 g_2 rfl rfl ?_
      refine x_aload_n i_48_47 rfl rfl ?_
      refine x_getr i_48_48 f_48_36 g_4 rfl rfl ?_
      refine x_getr i_48_51 f_48_91 g_2 rfl rfl ?_
      refine x_iload i_48_54 rfl rfl ?_
      obtain ⟨q4, h⟩ := h
      refine x_iaload (v := M 14 (a3 / 2)) i_48_56 g_14 (rfl) rfl q4 ?_
      refine x_iload_n i_48_57 rfl rfl ?_
      refine x_calls (as := [.inl a3]) (rest := [.inl (M 14 (a3 / 2)), .inr (.inl 13)]) i_48_58 k_48_97 rfl rfl rfl (Nat.le_of_ble_eq_true rfl) m_15 rfl ?_
      refine x_iload_n i_15_0 rfl rfl ?_
      refine x_iconst i_15_1 (by decide) rfl ?_
      refine x_ixor i_15_2 rfl ?_
      refine x_ireti i_15_3 r_15 ?_
      refine x_bki rfl ?_
      refine x_iconst i_48_61 (by decide) rfl ?_
      refine x_iand1 i_48_62 rfl ?_
      obtain ⟨q5, h⟩ := h
      refine x_iadd i_48_63 rfl q5 ?_
      obtain ⟨q6, h⟩ := h
      refine x_iaload (v := M 13 (M 14 (a3 / 2) + ((pm_op a3) % 2))) i_48_64 g_13 (rfl) rfl q6 ?_
      refine x_istore i_48_65 (Nat.le_of_ble_eq_true rfl) rfl rfl ?_
      refine x_aload_n i_48_67 rfl rfl ?_
      refine x_getr i_48_68 f_48_12 g_4 rfl rfl ?_
      refine x_getr i_48_71 f_48_44 g_5 rfl rfl ?_
      refine x_iload i_48_74 rfl rfl ?_
      obtain ⟨q7, h⟩ := h
      refine x_baload (v := M 20 (M 13 (M 14 (a3 / 2) + ((pm_op a3) % 2)))) i_48_76 g_20 (rfl) rfl q7 ?_
      refine x_if (C := M 20 (M 13 (M 14 (a3 / 2) + ((pm_op a3) % 2))) = 0) i_48_77 rfl Iff.rfl rfl ⟨fun c8 => ?_, fun c8 => ?_⟩
      · replace h := h.1 c8
        refine x_aload_n i_48_84 rfl rfl ?_
        refine x_iload i_48_85 rfl rfl ?_
        refine x_callv (as := [.inl (a3 / 2)]) (rest := []) i_48_87 k_48_129 rfl rfl rfl g_4 (Nat.le_of_ble_eq_true rfl) m_49 rfl h
      · replace h := h.2 c8
        refine x_iconst i_48_80 (by decide) rfl ?_
        refine x_goto i_48_81 rfl ?_
        exact h
/-! GateBench$Search.leaveFailing at 90 -/
theorem s_48_90 {L : Nat} {M : pm_M} {Q : pm_P} {a1 a2 a3 a4 a5 a6 a7 r : Int} {o8 : Option pm_V}
    (h : ((r = -1 → (0 ≤ pm_op a7 ∧ pm_op a7 < 4000) ∧ ((M 20 (pm_op a7) = 0 → (0 ≤ a7 ∧ a7 < 4000) ∧ ((¬ M 20 a7 = 0 → (pm_R (a4 + 1)) ∧ pm_X L (48, 12, [some (.inr (.inl 4)), some (.inl a1), some (.inl a3), some (.inl a5), some (.inl (a4 + 1)), some (.inl a5), some (.inl a6), some (.inl a7), some (.inl r)], [], M) Q) ∧ (¬ (¬ M 20 a7 = 0) → (0 ≤ M 5 4 ∧ M 5 4 < 2000) ∧ (pm_R (M 5 4 + 1)) ∧ (pm_R (a4 + 1)) ∧ pm_X L (48, 12, [some (.inr (.inl 4)), some (.inl a1), some (.inl a3), some (.inl a5), some (.inl (a4 + 1)), some (.inl a5), some (.inl a6), some (.inl a7), some (.inl r)], [], pm_set (pm_set (pm_set (pm_set M 20 a7 1) 21 a7 a6) 22 (M 5 4) a7) 5 4 (M 5 4 + 1)) Q))) ∧ (¬ (M 20 (pm_op a7) = 0) → Q (.inl (some (.inl a6))) M))) ∧ (¬ (r = -1) → (0 ≤ a3 / 2 ∧ a3 / 2 < 16117) ∧ (pm_R (M 14 (a3 / 2) + (a3 % 2))) ∧ (0 ≤ r ∧ r < 85212) ∧ (0 ≤ M 14 (a3 / 2) + (a3 % 2) ∧ M 14 (a3 / 2) + (a3 % 2) < 85212) ∧ (0 ≤ M 13 r ∧ M 13 r < 4000) ∧ (0 ≤ a3 ∧ a3 < 32232) ∧ ((¬ a2 = -1 → (0 ≤ a2 ∧ a2 < 32232) ∧ (pm_R (a4 + 1)) ∧ pm_X L (48, 12, [some (.inr (.inl 4)), some (.inl a1), some (.inl a2), some (.inl a5), some (.inl (a4 + 1)), some (.inl a5), some (.inl a6), some (.inl a7), some (.inl r)], [], pm_set (pm_set (pm_set (pm_set (pm_set M 13 r (M 13 (M 14 (a3 / 2) + (a3 % 2)))) 13 (M 14 (a3 / 2) + (a3 % 2)) (M 13 r)) 17 a3 (M 16 (M 13 r))) 16 (M 13 r) a3) 17 a2 a5) Q) ∧ (¬ (¬ a2 = -1) → (0 ≤ a1 ∧ a1 < 4000) ∧ (pm_R (a4 + 1)) ∧ pm_X L (48, 12, [some (.inr (.inl 4)), some (.inl a1), some (.inl a2), some (.inl a5), some (.inl (a4 + 1)), some (.inl a5), some (.inl a6), some (.inl a7), some (.inl r)], [], pm_set (pm_set (pm_set (pm_set (pm_set M 13 r (M 13 (M 14 (a3 / 2) + (a3 % 2)))) 13 (M 14 (a3 / 2) + (a3 % 2)) (M 13 r)) 17 a3 (M 16 (M 13 r))) 16 (M 13 r) a3) 16 a1 a5) Q))))) :
    pm_X L (48, 90, [some (.inr (.inl 4)), some (.inl a1), some (.inl a2), some (.inl a3), some (.inl a4), some (.inl a5), some (.inl a6), some (.inl a7), o8], [.inl r], M) Q := by
  refine x_istore i_48_90 (Nat.le_of_ble_eq_true rfl) rfl rfl ?_
  refine x_iload i_48_92 rfl rfl ?_
  refine x_iconst i_48_94 (by decide) rfl ?_
  refine x_icmp (C := r = -1) i_48_95 rfl Iff.rfl rfl ⟨fun c1 => ?_, fun c1 => ?_⟩
  · replace h := h.1 c1
    refine x_iload_n i_48_116 rfl rfl ?_
    refine x_istore_n i_48_117 (Nat.le_of_ble_eq_true rfl) rfl rfl ?_
    refine x_aload_n i_48_118 rfl rfl ?_
    refine x_getr i_48_119 f_48_12 g_4 rfl rfl ?_
    refine x_getr i_48_122 f_48_44 g_5 rfl rfl ?_
    refine x_iload i_48_125 rfl rfl ?_
    refine x_calls (as := [.inl a7]) (rest := [.inr (.inl 20)]) i_48_127 k_48_97 rfl rfl rfl (Nat.le_of_ble_eq_true rfl) m_15 rfl ?_
    refine x_iload_n i_15_0 rfl rfl ?_
    refine x_iconst i_15_1 (by decide) rfl ?_
    refine x_ixor i_15_2 rfl ?_
    refine x_ireti i_15_3 r_15 ?_
    refine x_bki rfl ?_
    obtain ⟨q2, h⟩ := h
    refine x_baload (v := M 20 (pm_op a7)) i_48_130 g_20 (rfl) rfl q2 ?_
    refine x_if (C := M 20 (pm_op a7) = 0) i_48_131 rfl Iff.rfl rfl ⟨fun c3 => ?_, fun c3 => ?_⟩
    · replace h := h.1 c3
      refine x_aload_n i_48_137 rfl rfl ?_
      refine x_getr i_48_138 f_48_12 g_4 rfl rfl ?_
      refine x_getr i_48_141 f_48_44 g_5 rfl rfl ?_
      refine x_iload i_48_144 rfl rfl ?_
      obtain ⟨q4, h⟩ := h
      refine x_baload (v := M 20 a7) i_48_146 g_20 (rfl) rfl q4 ?_
      refine x_if (C := ¬ M 20 a7 = 0) i_48_147 rfl Iff.rfl rfl ⟨fun c5 => ?_, fun c5 => ?_⟩
      · replace h := h.1 c5
        refine x_iload i_48_161 rfl rfl ?_
        refine x_istore_n i_48_163 (Nat.le_of_ble_eq_true rfl) rfl rfl ?_
        obtain ⟨q6, h⟩ := h
        refine x_iinc i_48_164 rfl (by decide) rfl rfl q6 ?_
        refine x_goto i_48_167 rfl ?_
        exact h
      · replace h := h.2 c5
        refine x_aload_n i_48_150 rfl rfl ?_
        refine x_getr i_48_151 f_48_12 g_4 rfl rfl ?_
        refine x_iload i_48_154 rfl rfl ?_
        refine x_iload i_48_156 rfl rfl ?_
        refine x_callv (as := [.inl a7, .inl a6]) (rest := []) i_48_158 k_48_104 rfl rfl rfl g_5 (Nat.le_of_ble_eq_true rfl) m_60 rfl ?_
        refine x_aload_n i_60_0 rfl rfl ?_
        refine x_getr i_60_1 f_60_9 g_5 rfl rfl ?_
        refine x_iload_n i_60_4 rfl rfl ?_
        refine x_iconst i_60_5 (by decide) rfl ?_
        refine x_bastore i_60_6 g_20 rfl ⟨q4, by unfold pm_bit; decide⟩ ?_
        refine x_aload_n i_60_7 rfl rfl ?_
        refine x_getr i_60_8 f_60_15 g_5 rfl rfl ?_
        refine x_iload_n i_60_11 rfl rfl ?_
        refine x_iload_n i_60_12 rfl rfl ?_
        refine x_iastore i_60_13 g_21 rfl q4 ?_
        refine x_aload_n i_60_14 rfl rfl ?_
        refine x_getr i_60_15 f_60_19 g_5 rfl rfl ?_
        refine x_aload_n i_60_18 rfl rfl ?_
        refine x_geti (v := M 5 4) i_60_19 f_60_37 g_5 rfl (pm_get_c (by decide) (pm_get_c (by decide) rfl)) rfl ?_
        refine x_iload_n i_60_22 rfl rfl ?_
        obtain ⟨q7, h⟩ := h
        refine x_iastore i_60_23 g_22 rfl q7 ?_
        refine x_aload_n i_60_24 rfl rfl ?_
        refine x_dup i_60_25 rfl rfl ?_
        refine x_geti (v := M 5 4) i_60_26 f_60_37 g_5 rfl (pm_get_c (by decide) (pm_get_c (by decide) (pm_get_c (by decide) rfl))) rfl ?_
        refine x_iconst i_60_29 (by decide) rfl ?_
        obtain ⟨q8, h⟩ := h
        refine x_iadd i_60_30 rfl q8 ?_
        refine x_puti i_60_31 f_60_37 g_5 rfl rfl ?_
        refine x_ret i_60_34 r_60 ?_
        refine x_bkv rfl ?_
        refine x_iload i_48_161 rfl rfl ?_
        refine x_istore_n i_48_163 (Nat.le_of_ble_eq_true rfl) rfl rfl ?_
        obtain ⟨q9, h⟩ := h
        refine x_iinc i_48_164 rfl (by decide) rfl rfl q9 ?_
        refine x_goto i_48_167 rfl ?_
        exact h
    · replace h := h.2 c3
      refine x_iload i_48_134 rfl rfl ?_
      exact x_ireti i_48_136 r_48 h
  · replace h := h.2 c1
    refine x_aload_n i_48_98 rfl rfl ?_
    refine x_iload_n i_48_99 rfl rfl ?_
    refine x_iload i_48_100 rfl rfl ?_
    refine x_callv (as := [.inl a3, .inl r]) (rest := []) i_48_102 k_48_132 rfl rfl rfl g_4 (Nat.le_of_ble_eq_true rfl) m_50 rfl ?_
    refine x_aload_n i_50_0 rfl rfl ?_
    refine x_getr i_50_1 f_50_36 g_4 rfl rfl ?_
    refine x_getr i_50_4 f_50_91 g_2 rfl rfl ?_
    refine x_iload_n i_50_7 rfl rfl ?_
    refine x_iconst i_50_8 (by decide) rfl ?_
    refine x_ishr i_50_9 rfl ?_
    obtain ⟨q10, h⟩ := h
    refine x_iaload (v := M 14 (a3 / 2)) i_50_10 g_14 (rfl) rfl q10 ?_
    refine x_iload_n i_50_11 rfl rfl ?_
    refine x_iconst i_50_12 (by decide) rfl ?_
    refine x_iand1 i_50_13 rfl ?_
    obtain ⟨q11, h⟩ := h
    refine x_iadd i_50_14 rfl q11 ?_
    refine x_istore_n i_50_15 (Nat.le_of_ble_eq_true rfl) rfl rfl ?_
    refine x_aload_n i_50_16 rfl rfl ?_
    refine x_getr i_50_17 f_50_36 g_4 rfl rfl ?_
    refine x_getr i_50_20 f_50_88 g_2 rfl rfl ?_
    refine x_iload_n i_50_23 rfl rfl ?_
    obtain ⟨q12, h⟩ := h
    refine x_iaload (v := M 13 r) i_50_24 g_13 (rfl) rfl q12 ?_
    refine x_istore i_50_25 (Nat.le_of_ble_eq_true rfl) rfl rfl ?_
    refine x_aload_n i_50_27 rfl rfl ?_
    refine x_getr i_50_28 f_50_36 g_4 rfl rfl ?_
    refine x_getr i_50_31 f_50_88 g_2 rfl rfl ?_
    refine x_iload_n i_50_34 rfl rfl ?_
    refine x_aload_n i_50_35 rfl rfl ?_
    refine x_getr i_50_36 f_50_36 g_4 rfl rfl ?_
    refine x_getr i_50_39 f_50_88 g_2 rfl rfl ?_
    refine x_iload_n i_50_42 rfl rfl ?_
    obtain ⟨q13, h⟩ := h
    refine x_iaload (v := M 13 (M 14 (a3 / 2) + (a3 % 2))) i_50_43 g_13 (rfl) rfl q13 ?_
    refine x_iastore i_50_44 g_13 rfl q12 ?_
    refine x_aload_n i_50_45 rfl rfl ?_
    refine x_getr i_50_46 f_50_36 g_4 rfl rfl ?_
    refine x_getr i_50_49 f_50_88 g_2 rfl rfl ?_
    refine x_iload_n i_50_52 rfl rfl ?_
    refine x_iload i_50_53 rfl rfl ?_
    refine x_iastore i_50_55 g_13 rfl q13 ?_
    refine x_aload_n i_50_56 rfl rfl ?_
    refine x_getr i_50_57 f_50_22 g_4 rfl rfl ?_
    refine x_iload_n i_50_60 rfl rfl ?_
    refine x_aload_n i_50_61 rfl rfl ?_
    refine x_getr i_50_62 f_50_18 g_4 rfl rfl ?_
    refine x_iload i_50_65 rfl rfl ?_
    obtain ⟨q14, h⟩ := h
    refine x_iaload (v := M 16 (M 13 r)) i_50_67 g_16 (pm_get_c (by decide) (pm_get_c (by decide) rfl)) rfl q14 ?_
    obtain ⟨q15, h⟩ := h
    refine x_iastore i_50_68 g_17 rfl q15 ?_
    refine x_aload_n i_50_69 rfl rfl ?_
    refine x_getr i_50_70 f_50_18 g_4 rfl rfl ?_
    refine x_iload i_50_73 rfl rfl ?_
    refine x_iload_n i_50_75 rfl rfl ?_
    refine x_iastore i_50_76 g_16 rfl q14 ?_
    refine x_ret i_50_77 r_50 ?_
    refine x_bkv rfl ?_
    refine x_aload_n i_48_105 rfl rfl ?_
    refine x_iload_n i_48_106 rfl rfl ?_
    refine x_iload_n i_48_107 rfl rfl ?_
    refine x_iload i_48_108 rfl rfl ?_
    refine x_callv (as := [.inl a1, .inl a2, .inl a5]) (rest := []) i_48_110 k_48_135 rfl rfl rfl g_4 (Nat.le_of_ble_eq_true rfl) m_51 rfl ?_
    refine x_iload_n i_51_0 rfl rfl ?_
    refine x_iconst i_51_1 (by decide) rfl ?_
    refine x_icmp (C := ¬ a2 = -1) i_51_2 rfl Iff.rfl rfl ⟨fun c16 => ?_, fun c16 => ?_⟩
    · replace h := h.1 c16
      refine x_aload_n i_51_15 rfl rfl ?_
      refine x_getr i_51_16 f_51_22 g_4 rfl rfl ?_
      refine x_iload_n i_51_19 rfl rfl ?_
      refine x_iload_n i_51_20 rfl rfl ?_
      obtain ⟨q17, h⟩ := h
      refine x_iastore i_51_21 g_17 rfl q17 ?_
      refine x_ret i_51_22 r_51 ?_
      refine x_bkv rfl ?_
      refine x_goto i_48_113 rfl ?_
      refine x_iload i_48_161 rfl rfl ?_
      refine x_istore_n i_48_163 (Nat.le_of_ble_eq_true rfl) rfl rfl ?_
      obtain ⟨q18, h⟩ := h
      refine x_iinc i_48_164 rfl (by decide) rfl rfl q18 ?_
      refine x_goto i_48_167 rfl ?_
      exact h
    · replace h := h.2 c16
      refine x_aload_n i_51_5 rfl rfl ?_
      refine x_getr i_51_6 f_51_18 g_4 rfl rfl ?_
      refine x_iload_n i_51_9 rfl rfl ?_
      refine x_iload_n i_51_10 rfl rfl ?_
      obtain ⟨q19, h⟩ := h
      refine x_iastore i_51_11 g_16 rfl q19 ?_
      refine x_goto i_51_12 rfl ?_
      refine x_ret i_51_22 r_51 ?_
      refine x_bkv rfl ?_
      refine x_goto i_48_113 rfl ?_
      refine x_iload i_48_161 rfl rfl ?_
      refine x_istore_n i_48_163 (Nat.le_of_ble_eq_true rfl) rfl rfl ?_
      obtain ⟨q20, h⟩ := h
      refine x_iinc i_48_164 rfl (by decide) rfl rfl q20 ?_
      refine x_goto i_48_167 rfl ?_
      exact h
end
section
/-! GateBench$Search.placeToWatch at 0 -/
theorem s_49_0 {L : Nat} {M : pm_M} {Q : pm_P} {a1 : Int}
    (h : (0 ≤ a1 ∧ a1 < 16117) ∧ (pm_R (M 14 a1 + 2)) ∧ pm_X L (49, 12, [some (.inr (.inl 4)), some (.inl a1), some (.inl (M 14 a1 + 2))], [], M) Q) :
    pm_X L (49, 0, [some (.inr (.inl 4)), some (.inl a1), none], [], M) Q := by
  refine x_aload_n i_49_0 rfl rfl ?_
  refine x_getr i_49_1 f_49_36 g_4 rfl rfl ?_
  refine x_getr i_49_4 f_49_91 g_2 rfl rfl ?_
  refine x_iload_n i_49_7 rfl rfl ?_
  obtain ⟨q1, h⟩ := h
  refine x_iaload (v := M 14 a1) i_49_8 g_14 (rfl) rfl q1 ?_
  refine x_iconst i_49_9 (by decide) rfl ?_
  obtain ⟨q2, h⟩ := h
  refine x_iadd i_49_10 rfl q2 ?_
  refine x_istore_n i_49_11 (Nat.le_of_ble_eq_true rfl) rfl rfl ?_
  exact h
/-! GateBench$Search.placeToWatch at 12 -/
theorem s_49_12 {L : Nat} {M : pm_M} {Q : pm_P} {a1 a2 : Int}
    (h : (pm_R (a1 + 1)) ∧ (0 ≤ a1 + 1 ∧ a1 + 1 < 16117) ∧ ((M 14 (a1 + 1) ≤ a2 → Q (.inl (some (.inl (-1)))) M) ∧ (¬ (M 14 (a1 + 1) ≤ a2) → (0 ≤ a2 ∧ a2 < 85212) ∧ (0 ≤ pm_op (M 13 a2) ∧ pm_op (M 13 a2) < 4000) ∧ ((¬ M 20 (pm_op (M 13 a2)) = 0 → (pm_R (a2 + 1)) ∧ pm_X L (49, 12, [some (.inr (.inl 4)), some (.inl a1), some (.inl (a2 + 1))], [], M) Q) ∧ (¬ (¬ M 20 (pm_op (M 13 a2)) = 0) → Q (.inl (some (.inl a2))) M))))) :
    pm_X L (49, 12, [some (.inr (.inl 4)), some (.inl a1), some (.inl a2)], [], M) Q := by
  refine x_iload_n i_49_12 rfl rfl ?_
  refine x_aload_n i_49_13 rfl rfl ?_
  refine x_getr i_49_14 f_49_36 g_4 rfl rfl ?_
  refine x_getr i_49_17 f_49_91 g_2 rfl rfl ?_
  refine x_iload_n i_49_20 rfl rfl ?_
  refine x_iconst i_49_21 (by decide) rfl ?_
  obtain ⟨q1, h⟩ := h
  refine x_iadd i_49_22 rfl q1 ?_
  obtain ⟨q2, h⟩ := h
  refine x_iaload (v := M 14 (a1 + 1)) i_49_23 g_14 (rfl) rfl q2 ?_
  refine x_icmp (C := M 14 (a1 + 1) ≤ a2) i_49_24 rfl Iff.rfl rfl ⟨fun c3 => ?_, fun c3 => ?_⟩
  · replace h := h.1 c3
    refine x_iconst i_49_58 (by decide) rfl ?_
    exact x_ireti i_49_59 r_49 h
  · replace h := h.2 c3
    refine x_aload_n i_49_27 rfl rfl ?_
    refine x_getr i_49_28 f_49_12 g_4 rfl rfl ?_
    refine x_getr i_49_31 f_49_44 g_5 rfl rfl ?_
    refine x_aload_n i_49_34 rfl rfl ?_
    refine x_getr i_49_35 f_49_36 g_4 rfl rfl ?_
    refine x_getr i_49_38 f_49_88 g_2 rfl rfl ?_
    refine x_iload_n i_49_41 rfl rfl ?_
    obtain ⟨q4, h⟩ := h
    refine x_iaload (v := M 13 a2) i_49_42 g_13 (rfl) rfl q4 ?_
    refine x_calls (as := [.inl (M 13 a2)]) (rest := [.inr (.inl 20)]) i_49_43 k_49_97 rfl rfl rfl (Nat.le_of_ble_eq_true rfl) m_15 rfl ?_
    refine x_iload_n i_15_0 rfl rfl ?_
    refine x_iconst i_15_1 (by decide) rfl ?_
    refine x_ixor i_15_2 rfl ?_
    refine x_ireti i_15_3 r_15 ?_
    refine x_bki rfl ?_
    obtain ⟨q5, h⟩ := h
    refine x_baload (v := M 20 (pm_op (M 13 a2))) i_49_46 g_20 (rfl) rfl q5 ?_
    refine x_if (C := ¬ M 20 (pm_op (M 13 a2)) = 0) i_49_47 rfl Iff.rfl rfl ⟨fun c6 => ?_, fun c6 => ?_⟩
    · replace h := h.1 c6
      obtain ⟨q7, h⟩ := h
      refine x_iinc i_49_52 rfl (by decide) rfl rfl q7 ?_
      refine x_goto i_49_55 rfl ?_
      exact h
    · replace h := h.2 c6
      refine x_iload_n i_49_50 rfl rfl ?_
      exact x_ireti i_49_51 r_49 h
/-! GateBench$Search.moveWatch at 0 -/
theorem s_50_0 {L : Nat} {M : pm_M} {Q : pm_P} {a1 a2 : Int}
    (h : (0 ≤ a1 / 2 ∧ a1 / 2 < 16117) ∧ (pm_R (M 14 (a1 / 2) + (a1 % 2))) ∧ (0 ≤ a2 ∧ a2 < 85212) ∧ (0 ≤ M 14 (a1 / 2) + (a1 % 2) ∧ M 14 (a1 / 2) + (a1 % 2) < 85212) ∧ (0 ≤ M 13 a2 ∧ M 13 a2 < 4000) ∧ (0 ≤ a1 ∧ a1 < 32232) ∧ Q (.inl none) (pm_set (pm_set (pm_set (pm_set M 13 a2 (M 13 (M 14 (a1 / 2) + (a1 % 2)))) 13 (M 14 (a1 / 2) + (a1 % 2)) (M 13 a2)) 17 a1 (M 16 (M 13 a2))) 16 (M 13 a2) a1)) :
    pm_X L (50, 0, [some (.inr (.inl 4)), some (.inl a1), some (.inl a2), none, none], [], M) Q := by
  refine x_aload_n i_50_0 rfl rfl ?_
  refine x_getr i_50_1 f_50_36 g_4 rfl rfl ?_
  refine x_getr i_50_4 f_50_91 g_2 rfl rfl ?_
  refine x_iload_n i_50_7 rfl rfl ?_
  refine x_iconst i_50_8 (by decide) rfl ?_
  refine x_ishr i_50_9 rfl ?_
  obtain ⟨q1, h⟩ := h
  refine x_iaload (v := M 14 (a1 / 2)) i_50_10 g_14 (rfl) rfl q1 ?_
  refine x_iload_n i_50_11 rfl rfl ?_
  refine x_iconst i_50_12 (by decide) rfl ?_
  refine x_iand1 i_50_13 rfl ?_
  obtain ⟨q2, h⟩ := h
  refine x_iadd i_50_14 rfl q2 ?_
  refine x_istore_n i_50_15 (Nat.le_of_ble_eq_true rfl) rfl rfl ?_
  refine x_aload_n i_50_16 rfl rfl ?_
  refine x_getr i_50_17 f_50_36 g_4 rfl rfl ?_
  refine x_getr i_50_20 f_50_88 g_2 rfl rfl ?_
  refine x_iload_n i_50_23 rfl rfl ?_
  obtain ⟨q3, h⟩ := h
  refine x_iaload (v := M 13 a2) i_50_24 g_13 (rfl) rfl q3 ?_
  refine x_istore i_50_25 (Nat.le_of_ble_eq_true rfl) rfl rfl ?_
  refine x_aload_n i_50_27 rfl rfl ?_
  refine x_getr i_50_28 f_50_36 g_4 rfl rfl ?_
  refine x_getr i_50_31 f_50_88 g_2 rfl rfl ?_
  refine x_iload_n i_50_34 rfl rfl ?_
  refine x_aload_n i_50_35 rfl rfl ?_
  refine x_getr i_50_36 f_50_36 g_4 rfl rfl ?_
  refine x_getr i_50_39 f_50_88 g_2 rfl rfl ?_
  refine x_iload_n i_50_42 rfl rfl ?_
  obtain ⟨q4, h⟩ := h
  refine x_iaload (v := M 13 (M 14 (a1 / 2) + (a1 % 2))) i_50_43 g_13 (rfl) rfl q4 ?_
  refine x_iastore i_50_44 g_13 rfl q3 ?_
  refine x_aload_n i_50_45 rfl rfl ?_
  refine x_getr i_50_46 f_50_36 g_4 rfl rfl ?_
  refine x_getr i_50_49 f_50_88 g_2 rfl rfl ?_
  refine x_iload_n i_50_52 rfl rfl ?_
  refine x_iload i_50_53 rfl rfl ?_
  refine x_iastore i_50_55 g_13 rfl q4 ?_
  refine x_aload_n i_50_56 rfl rfl ?_
  refine x_getr i_50_57 f_50_22 g_4 rfl rfl ?_
  refine x_iload_n i_50_60 rfl rfl ?_
  refine x_aload_n i_50_61 rfl rfl ?_
  refine x_getr i_50_62 f_50_18 g_4 rfl rfl ?_
  refine x_iload i_50_65 rfl rfl ?_
  obtain ⟨q5, h⟩ := h
  refine x_iaload (v := M 16 (M 13 a2)) i_50_67 g_16 (pm_get_c (by decide) (pm_get_c (by decide) rfl)) rfl q5 ?_
  obtain ⟨q6, h⟩ := h
  refine x_iastore i_50_68 g_17 rfl q6 ?_
  refine x_aload_n i_50_69 rfl rfl ?_
  refine x_getr i_50_70 f_50_18 g_4 rfl rfl ?_
  refine x_iload i_50_73 rfl rfl ?_
  refine x_iload_n i_50_75 rfl rfl ?_
  refine x_iastore i_50_76 g_16 rfl q5 ?_
  exact x_ret i_50_77 r_50 h
/-! GateBench$Search.unlink at 0 -/
theorem s_51_0 {L : Nat} {M : pm_M} {Q : pm_P} {a1 a2 a3 : Int}
    (h : ((¬ a2 = -1 → (0 ≤ a2 ∧ a2 < 32232) ∧ Q (.inl none) (pm_set M 17 a2 a3)) ∧ (¬ (¬ a2 = -1) → (0 ≤ a1 ∧ a1 < 4000) ∧ Q (.inl none) (pm_set M 16 a1 a3)))) :
    pm_X L (51, 0, [some (.inr (.inl 4)), some (.inl a1), some (.inl a2), some (.inl a3)], [], M) Q := by
  refine x_iload_n i_51_0 rfl rfl ?_
  refine x_iconst i_51_1 (by decide) rfl ?_
  refine x_icmp (C := ¬ a2 = -1) i_51_2 rfl Iff.rfl rfl ⟨fun c1 => ?_, fun c1 => ?_⟩
  · replace h := h.1 c1
    refine x_aload_n i_51_15 rfl rfl ?_
    refine x_getr i_51_16 f_51_22 g_4 rfl rfl ?_
    refine x_iload_n i_51_19 rfl rfl ?_
    refine x_iload_n i_51_20 rfl rfl ?_
    obtain ⟨q2, h⟩ := h
    refine x_iastore i_51_21 g_17 rfl q2 ?_
    exact x_ret i_51_22 r_51 h
  · replace h := h.2 c1
    refine x_aload_n i_51_5 rfl rfl ?_
    refine x_getr i_51_6 f_51_18 g_4 rfl rfl ?_
    refine x_iload_n i_51_9 rfl rfl ?_
    refine x_iload_n i_51_10 rfl rfl ?_
    obtain ⟨q3, h⟩ := h
    refine x_iastore i_51_11 g_16 rfl q3 ?_
    refine x_goto i_51_12 rfl ?_
    exact x_ret i_51_22 r_51 h
/-! GateBench$Search.watchBoth at 0 -/
theorem s_52_0 {L : Nat} {M : pm_M} {Q : pm_P} {a1 : Int}
    (h : pm_X L (52, 2, [some (.inr (.inl 4)), some (.inl a1), some (.inl 0), none, none], [], M) Q) :
    pm_X L (52, 0, [some (.inr (.inl 4)), some (.inl a1), none, none, none], [], M) Q := by
  refine x_iconst i_52_0 (by decide) rfl ?_
  refine x_istore_n i_52_1 (Nat.le_of_ble_eq_true rfl) rfl rfl ?_
  exact h
/-! GateBench$Search.watchBoth at 2 -/
theorem s_52_2 {L : Nat} {M : pm_M} {Q : pm_P} {a1 a2 : Int} {o3 o4 : Option pm_V}
    (h : ((2 ≤ a2 → Q (.inl none) M) ∧ (¬ (2 ≤ a2) → (0 ≤ a1 ∧ a1 < 16117) ∧ (pm_R (M 14 a1 + a2)) ∧ (0 ≤ M 14 a1 + a2 ∧ M 14 a1 + a2 < 85212) ∧ (pm_R (2 * a1)) ∧ (pm_R ((2 * a1) + a2)) ∧ (0 ≤ M 13 (M 14 a1 + a2) ∧ M 13 (M 14 a1 + a2) < 4000) ∧ (0 ≤ (2 * a1) + a2 ∧ (2 * a1) + a2 < 32232) ∧ (pm_R (a2 + 1)) ∧ pm_X L (52, 2, [some (.inr (.inl 4)), some (.inl a1), some (.inl (a2 + 1)), some (.inl (M 13 (M 14 a1 + a2))), some (.inl ((2 * a1) + a2))], [], pm_set (pm_set M 17 ((2 * a1) + a2) (M 16 (M 13 (M 14 a1 + a2)))) 16 (M 13 (M 14 a1 + a2)) ((2 * a1) + a2)) Q))) :
    pm_X L (52, 2, [some (.inr (.inl 4)), some (.inl a1), some (.inl a2), o3, o4], [], M) Q := by
  refine x_iload_n i_52_2 rfl rfl ?_
  refine x_iconst i_52_3 (by decide) rfl ?_
  refine x_icmp (C := 2 ≤ a2) i_52_4 rfl Iff.rfl rfl ⟨fun c1 => ?_, fun c1 => ?_⟩
  · replace h := h.1 c1
    exact x_ret i_52_61 r_52 h
  · replace h := h.2 c1
    refine x_aload_n i_52_7 rfl rfl ?_
    refine x_getr i_52_8 f_52_36 g_4 rfl rfl ?_
    refine x_getr i_52_11 f_52_88 g_2 rfl rfl ?_
    refine x_aload_n i_52_14 rfl rfl ?_
    refine x_getr i_52_15 f_52_36 g_4 rfl rfl ?_
    refine x_getr i_52_18 f_52_91 g_2 rfl rfl ?_
    refine x_iload_n i_52_21 rfl rfl ?_
    obtain ⟨q2, h⟩ := h
    refine x_iaload (v := M 14 a1) i_52_22 g_14 (rfl) rfl q2 ?_
    refine x_iload_n i_52_23 rfl rfl ?_
    obtain ⟨q3, h⟩ := h
    refine x_iadd i_52_24 rfl q3 ?_
    obtain ⟨q4, h⟩ := h
    refine x_iaload (v := M 13 (M 14 a1 + a2)) i_52_25 g_13 (rfl) rfl q4 ?_
    refine x_istore_n i_52_26 (Nat.le_of_ble_eq_true rfl) rfl rfl ?_
    refine x_iconst i_52_27 (by decide) rfl ?_
    refine x_iload_n i_52_28 rfl rfl ?_
    obtain ⟨q5, h⟩ := h
    refine x_imul i_52_29 rfl q5 ?_
    refine x_iload_n i_52_30 rfl rfl ?_
    obtain ⟨q6, h⟩ := h
    refine x_iadd i_52_31 rfl q6 ?_
    refine x_istore i_52_32 (Nat.le_of_ble_eq_true rfl) rfl rfl ?_
    refine x_aload_n i_52_34 rfl rfl ?_
    refine x_getr i_52_35 f_52_22 g_4 rfl rfl ?_
    refine x_iload i_52_38 rfl rfl ?_
    refine x_aload_n i_52_40 rfl rfl ?_
    refine x_getr i_52_41 f_52_18 g_4 rfl rfl ?_
    refine x_iload_n i_52_44 rfl rfl ?_
    obtain ⟨q7, h⟩ := h
    refine x_iaload (v := M 16 (M 13 (M 14 a1 + a2))) i_52_45 g_16 (rfl) rfl q7 ?_
    obtain ⟨q8, h⟩ := h
    refine x_iastore i_52_46 g_17 rfl q8 ?_
    refine x_aload_n i_52_47 rfl rfl ?_
    refine x_getr i_52_48 f_52_18 g_4 rfl rfl ?_
    refine x_iload_n i_52_51 rfl rfl ?_
    refine x_iload i_52_52 rfl rfl ?_
    refine x_iastore i_52_54 g_16 rfl q7 ?_
    obtain ⟨q9, h⟩ := h
    refine x_iinc i_52_55 rfl (by decide) rfl rfl q9 ?_
    refine x_goto i_52_58 rfl ?_
    exact h
/-! GateBench$Search.learn at 0 -/
theorem s_53_0 {L : Nat} {M : pm_M} {Q : pm_P} {a1 : Int}
    (h : pm_X L (54, 0, [some (.inr (.inl 4)), some (.inl a1), none], [], M) (pm_back (pm_X L) 53 2 [some (.inr (.inl 4)), some (.inl a1), none, none] [] Q)) :
    pm_X L (53, 0, [some (.inr (.inl 4)), some (.inl a1), none, none], [], M) Q := by
  refine x_aload_n i_53_0 rfl rfl ?_
  refine x_iload_n i_53_1 rfl rfl ?_
  refine x_callv (as := [.inl a1]) (rest := []) i_53_2 k_53_139 rfl rfl rfl g_4 (Nat.le_of_ble_eq_true rfl) m_54 rfl h
/-! GateBench$Search.learn at 5 -/
theorem s_53_5 {L : Nat} {M : pm_M} {Q : pm_P} {a1 : Int}
    (h : (pm_R (M 5 4 - 1)) ∧ pm_X L (53, 15, [some (.inr (.inl 4)), some (.inl a1), some (.inl (M 5 4 - 1)), none], [], M) Q) :
    pm_X L (53, 5, [some (.inr (.inl 4)), some (.inl a1), none, none], [], M) Q := by
  refine x_aload_n i_53_5 rfl rfl ?_
  refine x_getr i_53_6 f_53_12 g_4 rfl rfl ?_
  refine x_geti (v := M 5 4) i_53_9 f_53_120 g_5 rfl (rfl) rfl ?_
  refine x_iconst i_53_12 (by decide) rfl ?_
  obtain ⟨q1, h⟩ := h
  refine x_isub i_53_13 rfl q1 ?_
  refine x_istore_n i_53_14 (Nat.le_of_ble_eq_true rfl) rfl rfl ?_
  exact h
/-! GateBench$Search.learn at 15 -/
theorem s_53_15 {L : Nat} {M : pm_M} {Q : pm_P} {a1 a2 : Int} {o3 : Option pm_V}
    (h : ((a2 < 0 → (pm_R (M 2 2 + 1)) ∧ (0 ≤ M 2 2 + 1 ∧ M 2 2 + 1 < 16117) ∧ pm_X L (55, 0, [some (.inr (.inl 4)), some (.inl a1), none, none], [], pm_set (pm_set M 2 2 (M 2 2 + 1)) 14 (M 2 2 + 1) (M 2 3)) (pm_back (pm_X L) 53 97 [some (.inr (.inl 4)), some (.inl a1), some (.inl (M 2 2)), o3] [] Q)) ∧ (¬ (a2 < 0) → (0 ≤ a2 ∧ a2 < 2000) ∧ (0 ≤ (M 22 a2) / 2 ∧ (M 22 a2) / 2 < 2000) ∧ ((M 18 ((M 22 a2) / 2) = 0 → pm_X L (53, 81, [some (.inr (.inl 4)), some (.inl a1), some (.inl a2), some (.inl (M 22 a2))], [], M) Q) ∧ (¬ (M 18 ((M 22 a2) / 2) = 0) → (0 ≤ M 22 a2 ∧ M 22 a2 < 4000) ∧ ((¬ M 21 (M 22 a2) = -1 → pm_X L (54, 0, [some (.inr (.inl 4)), some (.inl (M 21 (M 22 a2))), none], [], M) (pm_back (pm_X L) 53 78 [some (.inr (.inl 4)), some (.inl a1), some (.inl a2), some (.inl (M 22 a2))] [] Q)) ∧ (¬ (¬ M 21 (M 22 a2) = -1) → (0 ≤ M 2 3 ∧ M 2 3 < 85212) ∧ (pm_R (M 2 3 + 1)) ∧ pm_X L (53, 81, [some (.inr (.inl 4)), some (.inl a1), some (.inl a2), some (.inl (M 22 a2))], [], pm_set (pm_set M 13 (M 2 3) (pm_op (M 22 a2))) 2 3 (M 2 3 + 1)) Q))))))) :
    pm_X L (53, 15, [some (.inr (.inl 4)), some (.inl a1), some (.inl a2), o3], [], M) Q := by
  refine x_iload_n i_53_15 rfl rfl ?_
  refine x_if (C := a2 < 0) i_53_16 rfl Iff.rfl rfl ⟨fun c1 => ?_, fun c1 => ?_⟩
  · replace h := h.1 c1
    refine x_aload_n i_53_87 rfl rfl ?_
    refine x_getr i_53_88 f_53_36 g_4 rfl rfl ?_
    refine x_callv (as := []) (rest := []) i_53_91 k_53_151 rfl rfl rfl g_2 (Nat.le_of_ble_eq_true rfl) m_35 rfl ?_
    refine x_aload_n i_35_0 rfl rfl ?_
    refine x_geti (v := M 2 2) i_35_1 f_35_19 g_2 rfl (rfl) rfl ?_
    refine x_istore_n i_35_4 (Nat.le_of_ble_eq_true rfl) rfl rfl ?_
    refine x_aload_n i_35_5 rfl rfl ?_
    refine x_dup i_35_6 rfl rfl ?_
    refine x_geti (v := M 2 2) i_35_7 f_35_19 g_2 rfl (rfl) rfl ?_
    refine x_iconst i_35_10 (by decide) rfl ?_
    obtain ⟨q2, h⟩ := h
    refine x_iadd i_35_11 rfl q2 ?_
    refine x_puti i_35_12 f_35_19 g_2 rfl rfl ?_
    refine x_aload_n i_35_15 rfl rfl ?_
    refine x_getr i_35_16 f_35_16 g_2 rfl rfl ?_
    refine x_aload_n i_35_19 rfl rfl ?_
    refine x_geti (v := M 2 2 + 1) i_35_20 f_35_19 g_2 rfl (pm_get_e) rfl ?_
    refine x_aload_n i_35_23 rfl rfl ?_
    refine x_geti (v := M 2 3) i_35_24 f_35_23 g_2 rfl (pm_get_j (by decide) rfl) rfl ?_
    obtain ⟨q3, h⟩ := h
    refine x_iastore i_35_27 g_14 rfl q3 ?_
    refine x_iload_n i_35_28 rfl rfl ?_
    refine x_ireti i_35_29 r_35 ?_
    refine x_bki rfl ?_
    refine x_istore_n i_53_94 (Nat.le_of_ble_eq_true rfl) rfl rfl ?_
    refine x_aload_n i_53_95 rfl rfl ?_
    refine x_iload_n i_53_96 rfl rfl ?_
    refine x_callv (as := [.inl a1]) (rest := []) i_53_97 k_53_154 rfl rfl rfl g_4 (Nat.le_of_ble_eq_true rfl) m_55 rfl h
  · replace h := h.2 c1
    refine x_aload_n i_53_19 rfl rfl ?_
    refine x_getr i_53_20 f_53_12 g_4 rfl rfl ?_
    refine x_getr i_53_23 f_53_123 g_5 rfl rfl ?_
    refine x_iload_n i_53_26 rfl rfl ?_
    obtain ⟨q4, h⟩ := h
    refine x_iaload (v := M 22 a2) i_53_27 g_22 (rfl) rfl q4 ?_
    refine x_istore_n i_53_28 (Nat.le_of_ble_eq_true rfl) rfl rfl ?_
    refine x_aload_n i_53_29 rfl rfl ?_
    refine x_getr i_53_30 f_53_25 g_4 rfl rfl ?_
    refine x_iload_n i_53_33 rfl rfl ?_
    refine x_calls (as := [.inl (M 22 a2)]) (rest := [.inr (.inl 18)]) i_53_34 k_53_142 rfl rfl rfl (Nat.le_of_ble_eq_true rfl) m_16 rfl ?_
    refine x_iload_n i_16_0 rfl rfl ?_
    refine x_iconst i_16_1 (by decide) rfl ?_
    refine x_ishr i_16_2 rfl ?_
    refine x_ireti i_16_3 r_16 ?_
    refine x_bki rfl ?_
    obtain ⟨q5, h⟩ := h
    refine x_baload (v := M 18 ((M 22 a2) / 2)) i_53_37 g_18 (rfl) rfl q5 ?_
    refine x_if (C := M 18 ((M 22 a2) / 2) = 0) i_53_38 rfl Iff.rfl rfl ⟨fun c6 => ?_, fun c6 => ?_⟩
    · replace h := h.1 c6
      exact h
    · replace h := h.2 c6
      refine x_aload_n i_53_41 rfl rfl ?_
      refine x_getr i_53_42 f_53_12 g_4 rfl rfl ?_
      refine x_getr i_53_45 f_53_145 g_5 rfl rfl ?_
      refine x_iload_n i_53_48 rfl rfl ?_
      obtain ⟨q7, h⟩ := h
      refine x_iaload (v := M 21 (M 22 a2)) i_53_49 g_21 (rfl) rfl q7 ?_
      refine x_iconst i_53_50 (by decide) rfl ?_
      refine x_icmp (C := ¬ M 21 (M 22 a2) = -1) i_53_51 rfl Iff.rfl rfl ⟨fun c8 => ?_, fun c8 => ?_⟩
      · replace h := h.1 c8
        refine x_aload_n i_53_68 rfl rfl ?_
        refine x_aload_n i_53_69 rfl rfl ?_
        refine x_getr i_53_70 f_53_12 g_4 rfl rfl ?_
        refine x_getr i_53_73 f_53_145 g_5 rfl rfl ?_
        refine x_iload_n i_53_76 rfl rfl ?_
        refine x_iaload (v := M 21 (M 22 a2)) i_53_77 g_21 (rfl) rfl q7 ?_
        refine x_callv (as := [.inl (M 21 (M 22 a2))]) (rest := []) i_53_78 k_53_139 rfl rfl rfl g_4 (Nat.le_of_ble_eq_true rfl) m_54 rfl h
      · replace h := h.2 c8
        refine x_aload_n i_53_54 rfl rfl ?_
        refine x_getr i_53_55 f_53_36 g_4 rfl rfl ?_
        refine x_iload_n i_53_58 rfl rfl ?_
        refine x_calls (as := [.inl (M 22 a2)]) (rest := [.inr (.inl 2)]) i_53_59 k_53_97 rfl rfl rfl (Nat.le_of_ble_eq_true rfl) m_15 rfl ?_
        refine x_iload_n i_15_0 rfl rfl ?_
        refine x_iconst i_15_1 (by decide) rfl ?_
        refine x_ixor i_15_2 rfl ?_
        refine x_ireti i_15_3 r_15 ?_
        refine x_bki rfl ?_
        refine x_callv (as := [.inl (pm_op (M 22 a2))]) (rest := []) i_53_62 k_53_148 rfl rfl rfl g_2 (Nat.le_of_ble_eq_true rfl) m_34 rfl ?_
        refine x_aload_n i_34_0 rfl rfl ?_
        refine x_getr i_34_1 f_34_10 g_2 rfl rfl ?_
        refine x_aload_n i_34_4 rfl rfl ?_
        refine x_geti (v := M 2 3) i_34_5 f_34_23 g_2 rfl (rfl) rfl ?_
        refine x_iload_n i_34_8 rfl rfl ?_
        obtain ⟨q9, h⟩ := h
        refine x_iastore i_34_9 g_13 rfl q9 ?_
        refine x_aload_n i_34_10 rfl rfl ?_
        refine x_dup i_34_11 rfl rfl ?_
        refine x_geti (v := M 2 3) i_34_12 f_34_23 g_2 rfl (pm_get_c (by decide) rfl) rfl ?_
        refine x_iconst i_34_15 (by decide) rfl ?_
        obtain ⟨q10, h⟩ := h
        refine x_iadd i_34_16 rfl q10 ?_
        refine x_puti i_34_17 f_34_23 g_2 rfl rfl ?_
        refine x_ret i_34_20 r_34 ?_
        refine x_bkv rfl ?_
        refine x_goto i_53_65 rfl ?_
        exact h
/-! GateBench$Search.learn at 81 -/
theorem s_53_81 {L : Nat} {M : pm_M} {Q : pm_P} {a1 a2 a3 : Int}
    (h : (pm_R (a2 + (-1))) ∧ pm_X L (53, 15, [some (.inr (.inl 4)), some (.inl a1), some (.inl (a2 + (-1))), some (.inl a3)], [], M) Q) :
    pm_X L (53, 81, [some (.inr (.inl 4)), some (.inl a1), some (.inl a2), some (.inl a3)], [], M) Q := by
  obtain ⟨q1, h⟩ := h
  refine x_iinc i_53_81 rfl (by decide) rfl rfl q1 ?_
  refine x_goto i_53_84 rfl ?_
  exact h
/-! GateBench$Search.learn at 100 -/
theorem s_53_100 {L : Nat} {M : pm_M} {Q : pm_P} {a1 a2 : Int} {o3 : Option pm_V}
    (h : pm_X L (39, 0, [some (.inr (.inl 3)), some (.inl a2), some (.inr (.inl 19)), some (.inl (M 4 8))], [], M) (pm_back (pm_X L) 53 113 [some (.inr (.inl 4)), some (.inl a1), some (.inl a2), o3] [] Q)) :
    pm_X L (53, 100, [some (.inr (.inl 4)), some (.inl a1), some (.inl a2), o3], [], M) Q := by
  refine x_aload_n i_53_100 rfl rfl ?_
  refine x_getr i_53_101 f_53_40 g_4 rfl rfl ?_
  refine x_iload_n i_53_104 rfl rfl ?_
  refine x_aload_n i_53_105 rfl rfl ?_
  refine x_getr i_53_106 f_53_29 g_4 rfl rfl ?_
  refine x_aload_n i_53_109 rfl rfl ?_
  refine x_geti (v := M 4 8) i_53_110 f_53_157 g_4 rfl (rfl) rfl ?_
  refine x_callv (as := [.inl a2, .inr (.inl 19), .inl (M 4 8)]) (rest := []) i_53_113 k_53_160 rfl rfl rfl g_3 (Nat.le_of_ble_eq_true rfl) m_39 rfl h
/-! GateBench$Search.learn at 116 -/
theorem s_53_116 {L : Nat} {M : pm_M} {Q : pm_P} {a1 a2 : Int} {o3 : Option pm_V}
    (h : Q (.inl (some (.inl a2))) M) :
    pm_X L (53, 116, [some (.inr (.inl 4)), some (.inl a1), some (.inl a2), o3], [], M) Q := by
  refine x_iload_n i_53_116 rfl rfl ?_
  exact x_ireti i_53_117 r_53 h
/-! GateBench$Search.involve at 0 -/
theorem s_54_0 {L : Nat} {M : pm_M} {Q : pm_P} {a1 : Int}
    (h : (0 ≤ a1 ∧ a1 < 16117) ∧ pm_X L (54, 10, [some (.inr (.inl 4)), some (.inl a1), some (.inl (M 14 a1))], [], M) Q) :
    pm_X L (54, 0, [some (.inr (.inl 4)), some (.inl a1), none], [], M) Q := by
  refine x_aload_n i_54_0 rfl rfl ?_
  refine x_getr i_54_1 f_54_36 g_4 rfl rfl ?_
  refine x_getr i_54_4 f_54_91 g_2 rfl rfl ?_
  refine x_iload_n i_54_7 rfl rfl ?_
  obtain ⟨q1, h⟩ := h
  refine x_iaload (v := M 14 a1) i_54_8 g_14 (rfl) rfl q1 ?_
  refine x_istore_n i_54_9 (Nat.le_of_ble_eq_true rfl) rfl rfl ?_
  exact h
/-! GateBench$Search.involve at 10 -/
theorem s_54_10 {L : Nat} {M : pm_M} {Q : pm_P} {a1 a2 : Int}
    (h : (pm_R (a1 + 1)) ∧ (0 ≤ a1 + 1 ∧ a1 + 1 < 16117) ∧ ((M 14 (a1 + 1) ≤ a2 → Q (.inl none) M) ∧ (¬ (M 14 (a1 + 1) ≤ a2) → (0 ≤ a2 ∧ a2 < 85212) ∧ (0 ≤ (M 13 a2) / 2 ∧ (M 13 a2) / 2 < 2000) ∧ (pm_R (a2 + 1)) ∧ pm_X L (54, 10, [some (.inr (.inl 4)), some (.inl a1), some (.inl (a2 + 1))], [], pm_set M 18 ((M 13 a2) / 2) 1) Q))) :
    pm_X L (54, 10, [some (.inr (.inl 4)), some (.inl a1), some (.inl a2)], [], M) Q := by
  refine x_iload_n i_54_10 rfl rfl ?_
  refine x_aload_n i_54_11 rfl rfl ?_
  refine x_getr i_54_12 f_54_36 g_4 rfl rfl ?_
  refine x_getr i_54_15 f_54_91 g_2 rfl rfl ?_
  refine x_iload_n i_54_18 rfl rfl ?_
  refine x_iconst i_54_19 (by decide) rfl ?_
  obtain ⟨q1, h⟩ := h
  refine x_iadd i_54_20 rfl q1 ?_
  obtain ⟨q2, h⟩ := h
  refine x_iaload (v := M 14 (a1 + 1)) i_54_21 g_14 (rfl) rfl q2 ?_
  refine x_icmp (C := M 14 (a1 + 1) ≤ a2) i_54_22 rfl Iff.rfl rfl ⟨fun c3 => ?_, fun c3 => ?_⟩
  · replace h := h.1 c3
    exact x_ret i_54_49 r_54 h
  · replace h := h.2 c3
    refine x_aload_n i_54_25 rfl rfl ?_
    refine x_getr i_54_26 f_54_25 g_4 rfl rfl ?_
    refine x_aload_n i_54_29 rfl rfl ?_
    refine x_getr i_54_30 f_54_36 g_4 rfl rfl ?_
    refine x_getr i_54_33 f_54_88 g_2 rfl rfl ?_
    refine x_iload_n i_54_36 rfl rfl ?_
    obtain ⟨q4, h⟩ := h
    refine x_iaload (v := M 13 a2) i_54_37 g_13 (rfl) rfl q4 ?_
    refine x_calls (as := [.inl (M 13 a2)]) (rest := [.inr (.inl 18)]) i_54_38 k_54_142 rfl rfl rfl (Nat.le_of_ble_eq_true rfl) m_16 rfl ?_
    refine x_iload_n i_16_0 rfl rfl ?_
    refine x_iconst i_16_1 (by decide) rfl ?_
    refine x_ishr i_16_2 rfl ?_
    refine x_ireti i_16_3 r_16 ?_
    refine x_bki rfl ?_
    refine x_iconst i_54_41 (by decide) rfl ?_
    obtain ⟨q5, h⟩ := h
    refine x_bastore i_54_42 g_18 rfl ⟨q5, by unfold pm_bit; decide⟩ ?_
    obtain ⟨q6, h⟩ := h
    refine x_iinc i_54_43 rfl (by decide) rfl rfl q6 ?_
    refine x_goto i_54_46 rfl ?_
    exact h
/-! GateBench$Search.collectHints at 0 -/
theorem s_55_0 {L : Nat} {M : pm_M} {Q : pm_P} {a1 : Int}
    (h : pm_X L (55, 7, [some (.inr (.inl 4)), some (.inl a1), some (.inl 0), none], [], pm_set M 4 8 0) Q) :
    pm_X L (55, 0, [some (.inr (.inl 4)), some (.inl a1), none, none], [], M) Q := by
  refine x_aload_n i_55_0 rfl rfl ?_
  refine x_iconst i_55_1 (by decide) rfl ?_
  refine x_puti i_55_2 f_55_157 g_4 rfl rfl ?_
  refine x_iconst i_55_5 (by decide) rfl ?_
  refine x_istore_n i_55_6 (Nat.le_of_ble_eq_true rfl) rfl rfl ?_
  exact h
/-! GateBench$Search.collectHints at 7 -/
theorem s_55_7 {L : Nat} {M : pm_M} {Q : pm_P} {a1 a2 : Int} {o3 : Option pm_V}
    (h : ((M 5 4 ≤ a2 → (0 ≤ M 4 8 ∧ M 4 8 < 2001) ∧ (pm_R (M 4 8 + 1)) ∧ Q (.inl none) (pm_set (pm_set M 19 (M 4 8) a1) 4 8 (M 4 8 + 1))) ∧ (¬ (M 5 4 ≤ a2) → (0 ≤ a2 ∧ a2 < 2000) ∧ (0 ≤ (M 22 a2) / 2 ∧ (M 22 a2) / 2 < 2000) ∧ ((M 18 ((M 22 a2) / 2) = 0 → (pm_R (a2 + 1)) ∧ pm_X L (55, 7, [some (.inr (.inl 4)), some (.inl a1), some (.inl (a2 + 1)), some (.inl (M 22 a2))], [], pm_set M 18 ((M 22 a2) / 2) 0) Q) ∧ (¬ (M 18 ((M 22 a2) / 2) = 0) → (0 ≤ M 22 a2 ∧ M 22 a2 < 4000) ∧ ((M 21 (M 22 a2) = -1 → (pm_R (a2 + 1)) ∧ pm_X L (55, 7, [some (.inr (.inl 4)), some (.inl a1), some (.inl (a2 + 1)), some (.inl (M 22 a2))], [], pm_set M 18 ((M 22 a2) / 2) 0) Q) ∧ (¬ (M 21 (M 22 a2) = -1) → (0 ≤ M 4 8 ∧ M 4 8 < 2001) ∧ (pm_R (M 4 8 + 1)) ∧ (pm_R (a2 + 1)) ∧ pm_X L (55, 7, [some (.inr (.inl 4)), some (.inl a1), some (.inl (a2 + 1)), some (.inl (M 22 a2))], [], pm_set (pm_set (pm_set M 19 (M 4 8) (M 21 (M 22 a2))) 4 8 (M 4 8 + 1)) 18 ((M 22 a2) / 2) 0) Q))))))) :
    pm_X L (55, 7, [some (.inr (.inl 4)), some (.inl a1), some (.inl a2), o3], [], M) Q := by
  refine x_iload_n i_55_7 rfl rfl ?_
  refine x_aload_n i_55_8 rfl rfl ?_
  refine x_getr i_55_9 f_55_12 g_4 rfl rfl ?_
  refine x_geti (v := M 5 4) i_55_12 f_55_120 g_5 rfl (rfl) rfl ?_
  refine x_icmp (C := M 5 4 ≤ a2) i_55_15 rfl Iff.rfl rfl ⟨fun c1 => ?_, fun c1 => ?_⟩
  · replace h := h.1 c1
    refine x_aload_n i_55_97 rfl rfl ?_
    refine x_getr i_55_98 f_55_29 g_4 rfl rfl ?_
    refine x_aload_n i_55_101 rfl rfl ?_
    refine x_geti (v := M 4 8) i_55_102 f_55_157 g_4 rfl (rfl) rfl ?_
    refine x_iload_n i_55_105 rfl rfl ?_
    obtain ⟨q2, h⟩ := h
    refine x_iastore i_55_106 g_19 rfl q2 ?_
    refine x_aload_n i_55_107 rfl rfl ?_
    refine x_dup i_55_108 rfl rfl ?_
    refine x_geti (v := M 4 8) i_55_109 f_55_157 g_4 rfl (pm_get_c (by decide) rfl) rfl ?_
    refine x_iconst i_55_112 (by decide) rfl ?_
    obtain ⟨q3, h⟩ := h
    refine x_iadd i_55_113 rfl q3 ?_
    refine x_puti i_55_114 f_55_157 g_4 rfl rfl ?_
    exact x_ret i_55_117 r_55 h
  · replace h := h.2 c1
    refine x_aload_n i_55_18 rfl rfl ?_
    refine x_getr i_55_19 f_55_12 g_4 rfl rfl ?_
    refine x_getr i_55_22 f_55_123 g_5 rfl rfl ?_
    refine x_iload_n i_55_25 rfl rfl ?_
    obtain ⟨q4, h⟩ := h
    refine x_iaload (v := M 22 a2) i_55_26 g_22 (rfl) rfl q4 ?_
    refine x_istore_n i_55_27 (Nat.le_of_ble_eq_true rfl) rfl rfl ?_
    refine x_aload_n i_55_28 rfl rfl ?_
    refine x_getr i_55_29 f_55_25 g_4 rfl rfl ?_
    refine x_iload_n i_55_32 rfl rfl ?_
    refine x_calls (as := [.inl (M 22 a2)]) (rest := [.inr (.inl 18)]) i_55_33 k_55_142 rfl rfl rfl (Nat.le_of_ble_eq_true rfl) m_16 rfl ?_
    refine x_iload_n i_16_0 rfl rfl ?_
    refine x_iconst i_16_1 (by decide) rfl ?_
    refine x_ishr i_16_2 rfl ?_
    refine x_ireti i_16_3 r_16 ?_
    refine x_bki rfl ?_
    obtain ⟨q5, h⟩ := h
    refine x_baload (v := M 18 ((M 22 a2) / 2)) i_55_36 g_18 (rfl) rfl q5 ?_
    refine x_if (C := M 18 ((M 22 a2) / 2) = 0) i_55_37 rfl Iff.rfl rfl ⟨fun c6 => ?_, fun c6 => ?_⟩
    · replace h := h.1 c6
      refine x_aload_n i_55_81 rfl rfl ?_
      refine x_getr i_55_82 f_55_25 g_4 rfl rfl ?_
      refine x_iload_n i_55_85 rfl rfl ?_
      refine x_calls (as := [.inl (M 22 a2)]) (rest := [.inr (.inl 18)]) i_55_86 k_55_142 rfl rfl rfl (Nat.le_of_ble_eq_true rfl) m_16 rfl ?_
      refine x_iload_n i_16_0 rfl rfl ?_
      refine x_iconst i_16_1 (by decide) rfl ?_
      refine x_ishr i_16_2 rfl ?_
      refine x_ireti i_16_3 r_16 ?_
      refine x_bki rfl ?_
      refine x_iconst i_55_89 (by decide) rfl ?_
      refine x_bastore i_55_90 g_18 rfl ⟨q5, by unfold pm_bit; decide⟩ ?_
      obtain ⟨q7, h⟩ := h
      refine x_iinc i_55_91 rfl (by decide) rfl rfl q7 ?_
      refine x_goto i_55_94 rfl ?_
      exact h
    · replace h := h.2 c6
      refine x_aload_n i_55_40 rfl rfl ?_
      refine x_getr i_55_41 f_55_12 g_4 rfl rfl ?_
      refine x_getr i_55_44 f_55_145 g_5 rfl rfl ?_
      refine x_iload_n i_55_47 rfl rfl ?_
      obtain ⟨q8, h⟩ := h
      refine x_iaload (v := M 21 (M 22 a2)) i_55_48 g_21 (rfl) rfl q8 ?_
      refine x_iconst i_55_49 (by decide) rfl ?_
      refine x_icmp (C := M 21 (M 22 a2) = -1) i_55_50 rfl Iff.rfl rfl ⟨fun c9 => ?_, fun c9 => ?_⟩
      · replace h := h.1 c9
        refine x_aload_n i_55_81 rfl rfl ?_
        refine x_getr i_55_82 f_55_25 g_4 rfl rfl ?_
        refine x_iload_n i_55_85 rfl rfl ?_
        refine x_calls (as := [.inl (M 22 a2)]) (rest := [.inr (.inl 18)]) i_55_86 k_55_142 rfl rfl rfl (Nat.le_of_ble_eq_true rfl) m_16 rfl ?_
        refine x_iload_n i_16_0 rfl rfl ?_
        refine x_iconst i_16_1 (by decide) rfl ?_
        refine x_ishr i_16_2 rfl ?_
        refine x_ireti i_16_3 r_16 ?_
        refine x_bki rfl ?_
        refine x_iconst i_55_89 (by decide) rfl ?_
        refine x_bastore i_55_90 g_18 rfl ⟨q5, by unfold pm_bit; decide⟩ ?_
        obtain ⟨q10, h⟩ := h
        refine x_iinc i_55_91 rfl (by decide) rfl rfl q10 ?_
        refine x_goto i_55_94 rfl ?_
        exact h
      · replace h := h.2 c9
        refine x_aload_n i_55_53 rfl rfl ?_
        refine x_getr i_55_54 f_55_29 g_4 rfl rfl ?_
        refine x_aload_n i_55_57 rfl rfl ?_
        refine x_geti (v := M 4 8) i_55_58 f_55_157 g_4 rfl (rfl) rfl ?_
        refine x_aload_n i_55_61 rfl rfl ?_
        refine x_getr i_55_62 f_55_12 g_4 rfl rfl ?_
        refine x_getr i_55_65 f_55_145 g_5 rfl rfl ?_
        refine x_iload_n i_55_68 rfl rfl ?_
        refine x_iaload (v := M 21 (M 22 a2)) i_55_69 g_21 (rfl) rfl q8 ?_
        obtain ⟨q11, h⟩ := h
        refine x_iastore i_55_70 g_19 rfl q11 ?_
        refine x_aload_n i_55_71 rfl rfl ?_
        refine x_dup i_55_72 rfl rfl ?_
        refine x_geti (v := M 4 8) i_55_73 f_55_157 g_4 rfl (pm_get_c (by decide) rfl) rfl ?_
        refine x_iconst i_55_76 (by decide) rfl ?_
        obtain ⟨q12, h⟩ := h
        refine x_iadd i_55_77 rfl q12 ?_
        refine x_puti i_55_78 f_55_157 g_4 rfl rfl ?_
        refine x_aload_n i_55_81 rfl rfl ?_
        refine x_getr i_55_82 f_55_25 g_4 rfl rfl ?_
        refine x_iload_n i_55_85 rfl rfl ?_
        refine x_calls (as := [.inl (M 22 a2)]) (rest := [.inr (.inl 18)]) i_55_86 k_55_142 rfl rfl rfl (Nat.le_of_ble_eq_true rfl) m_16 rfl ?_
        refine x_iload_n i_16_0 rfl rfl ?_
        refine x_iconst i_16_1 (by decide) rfl ?_
        refine x_ishr i_16_2 rfl ?_
        refine x_ireti i_16_3 r_16 ?_
        refine x_bki rfl ?_
        refine x_iconst i_55_89 (by decide) rfl ?_
        refine x_bastore i_55_90 g_18 rfl ⟨q5, by unfold pm_bit; decide⟩ ?_
        obtain ⟨q13, h⟩ := h
        refine x_iinc i_55_91 rfl (by decide) rfl rfl q13 ?_
        refine x_goto i_55_94 rfl ?_
        exact h
/-! GateBench$Search.applyLesson at 0 -/
theorem s_56_0 {L : Nat} {M : pm_M} {Q : pm_P} {a1 : Int}
    (h : (0 ≤ a1 ∧ a1 < 16117) ∧ (pm_R (a1 + 1)) ∧ (0 ≤ a1 + 1 ∧ a1 + 1 < 16117) ∧ (pm_R (M 14 (a1 + 1) - M 14 a1)) ∧ ((M 14 (a1 + 1) - M 14 a1 ≤ 1 → pm_X L (61, 0, [some (.inr (.inl 5)), some (.inl (-1)), none], [], M) (pm_back (pm_X L) 56 56 [some (.inr (.inl 4)), some (.inl a1), some (.inl (M 14 a1))] [] Q)) ∧ (¬ (M 14 (a1 + 1) - M 14 a1 ≤ 1) → (pm_R (M 14 a1 + 1)) ∧ (0 ≤ M 14 a1 + 1 ∧ M 14 a1 + 1 < 85212) ∧ pm_X L (61, 0, [some (.inr (.inl 5)), some (.inl (pm_op (M 13 (M 14 a1 + 1)))), none], [], M) (pm_back (pm_X L) 56 40 [some (.inr (.inl 4)), some (.inl a1), some (.inl (M 14 a1))] [] Q)))) :
    pm_X L (56, 0, [some (.inr (.inl 4)), some (.inl a1), none], [], M) Q := by
  refine x_aload_n i_56_0 rfl rfl ?_
  refine x_getr i_56_1 f_56_36 g_4 rfl rfl ?_
  refine x_getr i_56_4 f_56_91 g_2 rfl rfl ?_
  refine x_iload_n i_56_7 rfl rfl ?_
  obtain ⟨q1, h⟩ := h
  refine x_iaload (v := M 14 a1) i_56_8 g_14 (rfl) rfl q1 ?_
  refine x_istore_n i_56_9 (Nat.le_of_ble_eq_true rfl) rfl rfl ?_
  refine x_aload_n i_56_10 rfl rfl ?_
  refine x_getr i_56_11 f_56_36 g_4 rfl rfl ?_
  refine x_iload_n i_56_14 rfl rfl ?_
  refine x_callv (as := [.inl a1]) (rest := []) i_56_15 k_56_61 rfl rfl rfl g_2 (Nat.le_of_ble_eq_true rfl) m_36 rfl ?_
  refine x_aload_n i_36_0 rfl rfl ?_
  refine x_getr i_36_1 f_36_16 g_2 rfl rfl ?_
  refine x_iload_n i_36_4 rfl rfl ?_
  refine x_iconst i_36_5 (by decide) rfl ?_
  obtain ⟨q2, h⟩ := h
  refine x_iadd i_36_6 rfl q2 ?_
  obtain ⟨q3, h⟩ := h
  refine x_iaload (v := M 14 (a1 + 1)) i_36_7 g_14 (rfl) rfl q3 ?_
  refine x_aload_n i_36_8 rfl rfl ?_
  refine x_getr i_36_9 f_36_16 g_2 rfl rfl ?_
  refine x_iload_n i_36_12 rfl rfl ?_
  refine x_iaload (v := M 14 a1) i_36_13 g_14 (rfl) rfl q1 ?_
  obtain ⟨q4, h⟩ := h
  refine x_isub i_36_14 rfl q4 ?_
  refine x_ireti i_36_15 r_36 ?_
  refine x_bki rfl ?_
  refine x_iconst i_56_18 (by decide) rfl ?_
  refine x_icmp (C := M 14 (a1 + 1) - M 14 a1 ≤ 1) i_56_19 rfl Iff.rfl rfl ⟨fun c5 => ?_, fun c5 => ?_⟩
  · replace h := h.1 c5
    refine x_aload_n i_56_51 rfl rfl ?_
    refine x_getr i_56_52 f_56_12 g_4 rfl rfl ?_
    refine x_iconst i_56_55 (by decide) rfl ?_
    refine x_callv (as := [.inl (-1)]) (rest := []) i_56_56 k_56_166 rfl rfl rfl g_5 (Nat.le_of_ble_eq_true rfl) m_61 rfl h
  · replace h := h.2 c5
    refine x_aload_n i_56_22 rfl rfl ?_
    refine x_getr i_56_23 f_56_12 g_4 rfl rfl ?_
    refine x_aload_n i_56_26 rfl rfl ?_
    refine x_getr i_56_27 f_56_36 g_4 rfl rfl ?_
    refine x_getr i_56_30 f_56_88 g_2 rfl rfl ?_
    refine x_iload_n i_56_33 rfl rfl ?_
    refine x_iconst i_56_34 (by decide) rfl ?_
    obtain ⟨q6, h⟩ := h
    refine x_iadd i_56_35 rfl q6 ?_
    obtain ⟨q7, h⟩ := h
    refine x_iaload (v := M 13 (M 14 a1 + 1)) i_56_36 g_13 (rfl) rfl q7 ?_
    refine x_calls (as := [.inl (M 13 (M 14 a1 + 1))]) (rest := [.inr (.inl 5)]) i_56_37 k_56_97 rfl rfl rfl (Nat.le_of_ble_eq_true rfl) m_15 rfl ?_
    refine x_iload_n i_15_0 rfl rfl ?_
    refine x_iconst i_15_1 (by decide) rfl ?_
    refine x_ixor i_15_2 rfl ?_
    refine x_ireti i_15_3 r_15 ?_
    refine x_bki rfl ?_
    refine x_callv (as := [.inl (pm_op (M 13 (M 14 a1 + 1)))]) (rest := []) i_56_40 k_56_166 rfl rfl rfl g_5 (Nat.le_of_ble_eq_true rfl) m_61 rfl h
/-! GateBench$Search.applyLesson at 43 -/
theorem s_56_43 {L : Nat} {M : pm_M} {Q : pm_P} {a1 a2 : Int}
    (h : pm_X L (52, 0, [some (.inr (.inl 4)), some (.inl a1), none, none, none], [], M) (pm_back (pm_X L) 56 45 [some (.inr (.inl 4)), some (.inl a1), some (.inl a2)] [] Q)) :
    pm_X L (56, 43, [some (.inr (.inl 4)), some (.inl a1), some (.inl a2)], [], M) Q := by
  refine x_aload_n i_56_43 rfl rfl ?_
  refine x_iload_n i_56_44 rfl rfl ?_
  refine x_callv (as := [.inl a1]) (rest := []) i_56_45 k_56_94 rfl rfl rfl g_4 (Nat.le_of_ble_eq_true rfl) m_52 rfl h
/-! GateBench$Search.applyLesson at 48 -/
theorem s_56_48 {L : Nat} {M : pm_M} {Q : pm_P} {a1 a2 : Int}
    (h : pm_X L (56, 59, [some (.inr (.inl 4)), some (.inl a1), some (.inl a2)], [], M) Q) :
    pm_X L (56, 48, [some (.inr (.inl 4)), some (.inl a1), some (.inl a2)], [], M) Q := by
  refine x_goto i_56_48 rfl ?_
  exact h
/-! GateBench$Search.applyLesson at 59 -/
theorem s_56_59 {L : Nat} {M : pm_M} {Q : pm_P} {a1 a2 : Int}
    (h : (0 ≤ a2 ∧ a2 < 85212) ∧ (0 ≤ M 13 a2 ∧ M 13 a2 < 4000) ∧ (0 ≤ M 5 4 ∧ M 5 4 < 2000) ∧ (pm_R (M 5 4 + 1)) ∧ Q (.inl none) (pm_set (pm_set (pm_set (pm_set (pm_set M 4 9 (M 5 4)) 20 (M 13 a2) 1) 21 (M 13 a2) a1) 22 (M 5 4) (M 13 a2)) 5 4 (M 5 4 + 1))) :
    pm_X L (56, 59, [some (.inr (.inl 4)), some (.inl a1), some (.inl a2)], [], M) Q := by
  refine x_aload_n i_56_59 rfl rfl ?_
  refine x_aload_n i_56_60 rfl rfl ?_
  refine x_getr i_56_61 f_56_12 g_4 rfl rfl ?_
  refine x_geti (v := M 5 4) i_56_64 f_56_120 g_5 rfl (rfl) rfl ?_
  refine x_puti i_56_67 f_56_73 g_4 rfl rfl ?_
  refine x_aload_n i_56_70 rfl rfl ?_
  refine x_getr i_56_71 f_56_12 g_4 rfl rfl ?_
  refine x_aload_n i_56_74 rfl rfl ?_
  refine x_getr i_56_75 f_56_36 g_4 rfl rfl ?_
  refine x_getr i_56_78 f_56_88 g_2 rfl rfl ?_
  refine x_iload_n i_56_81 rfl rfl ?_
  obtain ⟨q1, h⟩ := h
  refine x_iaload (v := M 13 a2) i_56_82 g_13 (pm_get_c (by decide) rfl) rfl q1 ?_
  refine x_iload_n i_56_83 rfl rfl ?_
  refine x_callv (as := [.inl (M 13 a2), .inl a1]) (rest := []) i_56_84 k_56_104 rfl rfl rfl g_5 (Nat.le_of_ble_eq_true rfl) m_60 rfl ?_
  refine x_aload_n i_60_0 rfl rfl ?_
  refine x_getr i_60_1 f_60_9 g_5 rfl rfl ?_
  refine x_iload_n i_60_4 rfl rfl ?_
  refine x_iconst i_60_5 (by decide) rfl ?_
  obtain ⟨q2, h⟩ := h
  refine x_bastore i_60_6 g_20 rfl ⟨q2, by unfold pm_bit; decide⟩ ?_
  refine x_aload_n i_60_7 rfl rfl ?_
  refine x_getr i_60_8 f_60_15 g_5 rfl rfl ?_
  refine x_iload_n i_60_11 rfl rfl ?_
  refine x_iload_n i_60_12 rfl rfl ?_
  refine x_iastore i_60_13 g_21 rfl q2 ?_
  refine x_aload_n i_60_14 rfl rfl ?_
  refine x_getr i_60_15 f_60_19 g_5 rfl rfl ?_
  refine x_aload_n i_60_18 rfl rfl ?_
  refine x_geti (v := M 5 4) i_60_19 f_60_37 g_5 rfl (pm_get_c (by decide) (pm_get_c (by decide) (pm_get_c (by decide) rfl))) rfl ?_
  refine x_iload_n i_60_22 rfl rfl ?_
  obtain ⟨q3, h⟩ := h
  refine x_iastore i_60_23 g_22 rfl q3 ?_
  refine x_aload_n i_60_24 rfl rfl ?_
  refine x_dup i_60_25 rfl rfl ?_
  refine x_geti (v := M 5 4) i_60_26 f_60_37 g_5 rfl (pm_get_c (by decide) (pm_get_c (by decide) (pm_get_c (by decide) (pm_get_c (by decide) rfl)))) rfl ?_
  refine x_iconst i_60_29 (by decide) rfl ?_
  obtain ⟨q4, h⟩ := h
  refine x_iadd i_60_30 rfl q4 ?_
  refine x_puti i_60_31 f_60_37 g_5 rfl rfl ?_
  refine x_ret i_60_34 r_60 ?_
  refine x_bkv rfl ?_
  exact x_ret i_56_87 r_56 h
/-! GateBench$Trail.restart at 0 -/
theorem s_57_0 {L : Nat} {M : pm_M} {Q : pm_P}
    (h : pm_X L (62, 0, [some (.inr (.inl 5)), some (.inl 0), none], [], M) (pm_back (pm_X L) 57 2 [some (.inr (.inl 5))] [] Q)) :
    pm_X L (57, 0, [some (.inr (.inl 5))], [], M) Q := by
  refine x_aload_n i_57_0 rfl rfl ?_
  refine x_iconst i_57_1 (by decide) rfl ?_
  refine x_callv (as := [.inl 0]) (rest := []) i_57_2 k_57_25 rfl rfl rfl g_5 (Nat.le_of_ble_eq_true rfl) m_62 rfl h
/-! GateBench$Trail.restart at 5 -/
theorem s_57_5 {L : Nat} {M : pm_M} {Q : pm_P}
    (h : Q (.inl none) (pm_set M 5 5 0)) :
    pm_X L (57, 5, [some (.inr (.inl 5))], [], M) Q := by
  refine x_aload_n i_57_5 rfl rfl ?_
  refine x_iconst i_57_6 (by decide) rfl ?_
  refine x_puti i_57_7 f_57_29 g_5 rfl rfl ?_
  exact x_ret i_57_10 r_57 h
/-! GateBench$Trail.isOpen at 0 -/
theorem s_58_0 {L : Nat} {M : pm_M} {Q : pm_P} {a1 : Int}
    (h : (0 ≤ a1 ∧ a1 < 4000) ∧ ((¬ M 20 a1 = 0 → Q (.inl (some (.inl 0))) M) ∧ (¬ (¬ M 20 a1 = 0) → (0 ≤ pm_op a1 ∧ pm_op a1 < 4000) ∧ ((¬ M 20 (pm_op a1) = 0 → Q (.inl (some (.inl 0))) M) ∧ (¬ (¬ M 20 (pm_op a1) = 0) → Q (.inl (some (.inl 1))) M))))) :
    pm_X L (58, 0, [some (.inr (.inl 5)), some (.inl a1)], [], M) Q := by
  refine x_aload_n i_58_0 rfl rfl ?_
  refine x_getr i_58_1 f_58_9 g_5 rfl rfl ?_
  refine x_iload_n i_58_4 rfl rfl ?_
  obtain ⟨q1, h⟩ := h
  refine x_baload (v := M 20 a1) i_58_5 g_20 (rfl) rfl q1 ?_
  refine x_if (C := ¬ M 20 a1 = 0) i_58_6 rfl Iff.rfl rfl ⟨fun c2 => ?_, fun c2 => ?_⟩
  · replace h := h.1 c2
    refine x_iconst i_58_25 (by decide) rfl ?_
    exact x_iretz i_58_26 r_58 (by unfold pm_bit; decide) h
  · replace h := h.2 c2
    refine x_aload_n i_58_9 rfl rfl ?_
    refine x_getr i_58_10 f_58_9 g_5 rfl rfl ?_
    refine x_iload_n i_58_13 rfl rfl ?_
    refine x_calls (as := [.inl a1]) (rest := [.inr (.inl 20)]) i_58_14 k_58_33 rfl rfl rfl (Nat.le_of_ble_eq_true rfl) m_15 rfl ?_
    refine x_iload_n i_15_0 rfl rfl ?_
    refine x_iconst i_15_1 (by decide) rfl ?_
    refine x_ixor i_15_2 rfl ?_
    refine x_ireti i_15_3 r_15 ?_
    refine x_bki rfl ?_
    obtain ⟨q3, h⟩ := h
    refine x_baload (v := M 20 (pm_op a1)) i_58_17 g_20 (rfl) rfl q3 ?_
    refine x_if (C := ¬ M 20 (pm_op a1) = 0) i_58_18 rfl Iff.rfl rfl ⟨fun c4 => ?_, fun c4 => ?_⟩
    · replace h := h.1 c4
      refine x_iconst i_58_25 (by decide) rfl ?_
      exact x_iretz i_58_26 r_58 (by unfold pm_bit; decide) h
    · replace h := h.2 c4
      refine x_iconst i_58_21 (by decide) rfl ?_
      refine x_goto i_58_22 rfl ?_
      exact x_iretz i_58_26 r_58 (by unfold pm_bit; decide) h
/-! GateBench$Trail.attempt at 0 -/
theorem s_59_0 {L : Nat} {M : pm_M} {Q : pm_P} {a1 : Int}
    (h : (0 ≤ M 5 5 ∧ M 5 5 < 12) ∧ (pm_R (M 5 5 + 1)) ∧ (0 ≤ a1 ∧ a1 < 4000) ∧ (0 ≤ M 5 4 ∧ M 5 4 < 2000) ∧ (pm_R (M 5 4 + 1)) ∧ Q (.inl none) (pm_set (pm_set (pm_set (pm_set (pm_set (pm_set M 23 (M 5 5) (M 5 4)) 5 5 (M 5 5 + 1)) 20 a1 1) 21 a1 (-1)) 22 (M 5 4) a1) 5 4 (M 5 4 + 1))) :
    pm_X L (59, 0, [some (.inr (.inl 5)), some (.inl a1)], [], M) Q := by
  refine x_aload_n i_59_0 rfl rfl ?_
  refine x_getr i_59_1 f_59_22 g_5 rfl rfl ?_
  refine x_aload_n i_59_4 rfl rfl ?_
  refine x_geti (v := M 5 5) i_59_5 f_59_29 g_5 rfl (rfl) rfl ?_
  refine x_aload_n i_59_8 rfl rfl ?_
  refine x_geti (v := M 5 4) i_59_9 f_59_37 g_5 rfl (rfl) rfl ?_
  obtain ⟨q1, h⟩ := h
  refine x_iastore i_59_12 g_23 rfl q1 ?_
  refine x_aload_n i_59_13 rfl rfl ?_
  refine x_dup i_59_14 rfl rfl ?_
  refine x_geti (v := M 5 5) i_59_15 f_59_29 g_5 rfl (pm_get_c (by decide) rfl) rfl ?_
  refine x_iconst i_59_18 (by decide) rfl ?_
  obtain ⟨q2, h⟩ := h
  refine x_iadd i_59_19 rfl q2 ?_
  refine x_puti i_59_20 f_59_29 g_5 rfl rfl ?_
  refine x_aload_n i_59_23 rfl rfl ?_
  refine x_iload_n i_59_24 rfl rfl ?_
  refine x_iconst i_59_25 (by decide) rfl ?_
  refine x_callv (as := [.inl a1, .inl (-1)]) (rest := []) i_59_26 k_59_40 rfl rfl rfl g_5 (Nat.le_of_ble_eq_true rfl) m_60 rfl ?_
  refine x_aload_n i_60_0 rfl rfl ?_
  refine x_getr i_60_1 f_60_9 g_5 rfl rfl ?_
  refine x_iload_n i_60_4 rfl rfl ?_
  refine x_iconst i_60_5 (by decide) rfl ?_
  obtain ⟨q3, h⟩ := h
  refine x_bastore i_60_6 g_20 rfl ⟨q3, by unfold pm_bit; decide⟩ ?_
  refine x_aload_n i_60_7 rfl rfl ?_
  refine x_getr i_60_8 f_60_15 g_5 rfl rfl ?_
  refine x_iload_n i_60_11 rfl rfl ?_
  refine x_iload_n i_60_12 rfl rfl ?_
  refine x_iastore i_60_13 g_21 rfl q3 ?_
  refine x_aload_n i_60_14 rfl rfl ?_
  refine x_getr i_60_15 f_60_19 g_5 rfl rfl ?_
  refine x_aload_n i_60_18 rfl rfl ?_
  refine x_geti (v := M 5 4) i_60_19 f_60_37 g_5 rfl (pm_get_c (by decide) (pm_get_c (by decide) (pm_get_j (by decide) (pm_get_c (by decide) rfl)))) rfl ?_
  refine x_iload_n i_60_22 rfl rfl ?_
  obtain ⟨q4, h⟩ := h
  refine x_iastore i_60_23 g_22 rfl q4 ?_
  refine x_aload_n i_60_24 rfl rfl ?_
  refine x_dup i_60_25 rfl rfl ?_
  refine x_geti (v := M 5 4) i_60_26 f_60_37 g_5 rfl (pm_get_c (by decide) (pm_get_c (by decide) (pm_get_c (by decide) (pm_get_j (by decide) (pm_get_c (by decide) rfl))))) rfl ?_
  refine x_iconst i_60_29 (by decide) rfl ?_
  obtain ⟨q5, h⟩ := h
  refine x_iadd i_60_30 rfl q5 ?_
  refine x_puti i_60_31 f_60_37 g_5 rfl rfl ?_
  refine x_ret i_60_34 r_60 ?_
  refine x_bkv rfl ?_
  exact x_ret i_59_29 r_59 h
/-! GateBench$Trail.hold at 0 -/
theorem s_60_0 {L : Nat} {M : pm_M} {Q : pm_P} {a1 a2 : Int}
    (h : (0 ≤ a1 ∧ a1 < 4000) ∧ (0 ≤ M 5 4 ∧ M 5 4 < 2000) ∧ (pm_R (M 5 4 + 1)) ∧ Q (.inl none) (pm_set (pm_set (pm_set (pm_set M 20 a1 1) 21 a1 a2) 22 (M 5 4) a1) 5 4 (M 5 4 + 1))) :
    pm_X L (60, 0, [some (.inr (.inl 5)), some (.inl a1), some (.inl a2)], [], M) Q := by
  refine x_aload_n i_60_0 rfl rfl ?_
  refine x_getr i_60_1 f_60_9 g_5 rfl rfl ?_
  refine x_iload_n i_60_4 rfl rfl ?_
  refine x_iconst i_60_5 (by decide) rfl ?_
  obtain ⟨q1, h⟩ := h
  refine x_bastore i_60_6 g_20 rfl ⟨q1, by unfold pm_bit; decide⟩ ?_
  refine x_aload_n i_60_7 rfl rfl ?_
  refine x_getr i_60_8 f_60_15 g_5 rfl rfl ?_
  refine x_iload_n i_60_11 rfl rfl ?_
  refine x_iload_n i_60_12 rfl rfl ?_
  refine x_iastore i_60_13 g_21 rfl q1 ?_
  refine x_aload_n i_60_14 rfl rfl ?_
  refine x_getr i_60_15 f_60_19 g_5 rfl rfl ?_
  refine x_aload_n i_60_18 rfl rfl ?_
  refine x_geti (v := M 5 4) i_60_19 f_60_37 g_5 rfl (pm_get_c (by decide) (pm_get_c (by decide) rfl)) rfl ?_
  refine x_iload_n i_60_22 rfl rfl ?_
  obtain ⟨q2, h⟩ := h
  refine x_iastore i_60_23 g_22 rfl q2 ?_
  refine x_aload_n i_60_24 rfl rfl ?_
  refine x_dup i_60_25 rfl rfl ?_
  refine x_geti (v := M 5 4) i_60_26 f_60_37 g_5 rfl (pm_get_c (by decide) (pm_get_c (by decide) (pm_get_c (by decide) rfl))) rfl ?_
  refine x_iconst i_60_29 (by decide) rfl ?_
  obtain ⟨q3, h⟩ := h
  refine x_iadd i_60_30 rfl q3 ?_
  refine x_puti i_60_31 f_60_37 g_5 rfl rfl ?_
  exact x_ret i_60_34 r_60 h
/-! GateBench$Trail.goBackTo at 0 -/
theorem s_61_0 {L : Nat} {M : pm_M} {Q : pm_P} {a1 : Int}
    (h : pm_X L (61, 5, [some (.inr (.inl 5)), some (.inl a1), some (.inl (M 5 4))], [], M) Q) :
    pm_X L (61, 0, [some (.inr (.inl 5)), some (.inl a1), none], [], M) Q := by
  refine x_aload_n i_61_0 rfl rfl ?_
  refine x_geti (v := M 5 4) i_61_1 f_61_37 g_5 rfl (rfl) rfl ?_
  refine x_istore_n i_61_4 (Nat.le_of_ble_eq_true rfl) rfl rfl ?_
  exact h
/-! GateBench$Trail.goBackTo at 5 -/
theorem s_61_5 {L : Nat} {M : pm_M} {Q : pm_P} {a1 a2 : Int}
    (h : ((M 5 5 ≤ 0 → pm_X L (62, 0, [some (.inr (.inl 5)), some (.inl a2), none], [], M) (pm_back (pm_X L) 61 57 [some (.inr (.inl 5)), some (.inl a1), some (.inl a2)] [] Q)) ∧ (¬ (M 5 5 ≤ 0) → (pm_R (M 5 5 - 1)) ∧ (0 ≤ M 5 5 - 1 ∧ M 5 5 - 1 < 12) ∧ (0 ≤ M 23 (M 5 5 - 1) ∧ M 23 (M 5 5 - 1) < 2000) ∧ ((M 22 (M 23 (M 5 5 - 1)) = a1 → pm_X L (62, 0, [some (.inr (.inl 5)), some (.inl a2), none], [], M) (pm_back (pm_X L) 61 57 [some (.inr (.inl 5)), some (.inl a1), some (.inl a2)] [] Q)) ∧ (¬ (M 22 (M 23 (M 5 5 - 1)) = a1) → pm_X L (61, 5, [some (.inr (.inl 5)), some (.inl a1), some (.inl (M 23 (M 5 5 - 1)))], [], pm_set M 5 5 (M 5 5 - 1)) Q))))) :
    pm_X L (61, 5, [some (.inr (.inl 5)), some (.inl a1), some (.inl a2)], [], M) Q := by
  refine x_aload_n i_61_5 rfl rfl ?_
  refine x_geti (v := M 5 5) i_61_6 f_61_29 g_5 rfl (rfl) rfl ?_
  refine x_if (C := M 5 5 ≤ 0) i_61_9 rfl Iff.rfl rfl ⟨fun c1 => ?_, fun c1 => ?_⟩
  · replace h := h.1 c1
    refine x_aload_n i_61_55 rfl rfl ?_
    refine x_iload_n i_61_56 rfl rfl ?_
    refine x_callv (as := [.inl a2]) (rest := []) i_61_57 k_61_25 rfl rfl rfl g_5 (Nat.le_of_ble_eq_true rfl) m_62 rfl h
  · replace h := h.2 c1
    refine x_aload_n i_61_12 rfl rfl ?_
    refine x_getr i_61_13 f_61_19 g_5 rfl rfl ?_
    refine x_aload_n i_61_16 rfl rfl ?_
    refine x_getr i_61_17 f_61_22 g_5 rfl rfl ?_
    refine x_aload_n i_61_20 rfl rfl ?_
    refine x_geti (v := M 5 5) i_61_21 f_61_29 g_5 rfl (rfl) rfl ?_
    refine x_iconst i_61_24 (by decide) rfl ?_
    obtain ⟨q2, h⟩ := h
    refine x_isub i_61_25 rfl q2 ?_
    obtain ⟨q3, h⟩ := h
    refine x_iaload (v := M 23 (M 5 5 - 1)) i_61_26 g_23 (rfl) rfl q3 ?_
    obtain ⟨q4, h⟩ := h
    refine x_iaload (v := M 22 (M 23 (M 5 5 - 1))) i_61_27 g_22 (rfl) rfl q4 ?_
    refine x_iload_n i_61_28 rfl rfl ?_
    refine x_icmp (C := M 22 (M 23 (M 5 5 - 1)) = a1) i_61_29 rfl Iff.rfl rfl ⟨fun c5 => ?_, fun c5 => ?_⟩
    · replace h := h.1 c5
      refine x_aload_n i_61_55 rfl rfl ?_
      refine x_iload_n i_61_56 rfl rfl ?_
      refine x_callv (as := [.inl a2]) (rest := []) i_61_57 k_61_25 rfl rfl rfl g_5 (Nat.le_of_ble_eq_true rfl) m_62 rfl h
    · replace h := h.2 c5
      refine x_aload_n i_61_32 rfl rfl ?_
      refine x_dup i_61_33 rfl rfl ?_
      refine x_geti (v := M 5 5) i_61_34 f_61_29 g_5 rfl (rfl) rfl ?_
      refine x_iconst i_61_37 (by decide) rfl ?_
      refine x_isub i_61_38 rfl q2 ?_
      refine x_puti i_61_39 f_61_29 g_5 rfl rfl ?_
      refine x_aload_n i_61_42 rfl rfl ?_
      refine x_getr i_61_43 f_61_22 g_5 rfl rfl ?_
      refine x_aload_n i_61_46 rfl rfl ?_
      refine x_geti (v := M 5 5 - 1) i_61_47 f_61_29 g_5 rfl (pm_get_e) rfl ?_
      refine x_iaload (v := M 23 (M 5 5 - 1)) i_61_50 g_23 (pm_get_c (by decide) rfl) rfl q3 ?_
      refine x_istore_n i_61_51 (Nat.le_of_ble_eq_true rfl) rfl rfl ?_
      refine x_goto i_61_52 rfl ?_
      exact h
/-! GateBench$Trail.goBackTo at 60 -/
theorem s_61_60 {L : Nat} {M : pm_M} {Q : pm_P} {a1 a2 : Int}
    (h : Q (.inl none) M) :
    pm_X L (61, 60, [some (.inr (.inl 5)), some (.inl a1), some (.inl a2)], [], M) Q := by
  exact x_ret i_61_60 r_61 h
/-! GateBench$Trail.cutTo at 0 -/
theorem s_62_0 {L : Nat} {M : pm_M} {Q : pm_P} {a1 : Int}
    (h : pm_X L (62, 2, [some (.inr (.inl 5)), some (.inl a1), some (.inl a1)], [], M) Q) :
    pm_X L (62, 0, [some (.inr (.inl 5)), some (.inl a1), none], [], M) Q := by
  refine x_iload_n i_62_0 rfl rfl ?_
  refine x_istore_n i_62_1 (Nat.le_of_ble_eq_true rfl) rfl rfl ?_
  exact h
/-! GateBench$Trail.cutTo at 2 -/
theorem s_62_2 {L : Nat} {M : pm_M} {Q : pm_P} {a1 a2 : Int}
    (h : ((M 5 4 ≤ a2 → Q (.inl none) (pm_set M 5 4 a1)) ∧ (¬ (M 5 4 ≤ a2) → (0 ≤ a2 ∧ a2 < 2000) ∧ (0 ≤ M 22 a2 ∧ M 22 a2 < 4000) ∧ (pm_R (a2 + 1)) ∧ pm_X L (62, 2, [some (.inr (.inl 5)), some (.inl a1), some (.inl (a2 + 1))], [], pm_set M 20 (M 22 a2) 0) Q))) :
    pm_X L (62, 2, [some (.inr (.inl 5)), some (.inl a1), some (.inl a2)], [], M) Q := by
  refine x_iload_n i_62_2 rfl rfl ?_
  refine x_aload_n i_62_3 rfl rfl ?_
  refine x_geti (v := M 5 4) i_62_4 f_62_37 g_5 rfl (rfl) rfl ?_
  refine x_icmp (C := M 5 4 ≤ a2) i_62_7 rfl Iff.rfl rfl ⟨fun c1 => ?_, fun c1 => ?_⟩
  · replace h := h.1 c1
    refine x_aload_n i_62_28 rfl rfl ?_
    refine x_iload_n i_62_29 rfl rfl ?_
    refine x_puti i_62_30 f_62_37 g_5 rfl rfl ?_
    exact x_ret i_62_33 r_62 h
  · replace h := h.2 c1
    refine x_aload_n i_62_10 rfl rfl ?_
    refine x_getr i_62_11 f_62_9 g_5 rfl rfl ?_
    refine x_aload_n i_62_14 rfl rfl ?_
    refine x_getr i_62_15 f_62_19 g_5 rfl rfl ?_
    refine x_iload_n i_62_18 rfl rfl ?_
    obtain ⟨q2, h⟩ := h
    refine x_iaload (v := M 22 a2) i_62_19 g_22 (rfl) rfl q2 ?_
    refine x_iconst i_62_20 (by decide) rfl ?_
    obtain ⟨q3, h⟩ := h
    refine x_bastore i_62_21 g_20 rfl ⟨q3, by unfold pm_bit; decide⟩ ?_
    obtain ⟨q4, h⟩ := h
    refine x_iinc i_62_22 rfl (by decide) rfl rfl q4 ?_
    refine x_goto i_62_25 rfl ?_
    exact h
end
section
/-! GateBenchModel.thrown at 0 -/
theorem s_63_0 {L : Nat} {M : pm_M} {Q : pm_P}
    (h : Q (.inl (some (.inl (M 24 0)))) M) :
    pm_X L (63, 0, [some (.inr (.inl 24))], [], M) Q := by
  refine x_aload_n i_63_0 rfl rfl ?_
  refine x_geti (v := M 24 0) i_63_1 f_63_7 g_24 rfl (rfl) rfl ?_
  exact x_ireti i_63_4 r_63 h
/-! GateBenchModel.refuse at 0 -/
theorem s_64_0 {L : Nat} {M : pm_M} {Q : pm_P} {a1 a2 : Int}
    (h : ((a2 = 0 → (pm_bit a2) ∧ Q (.inl (some (.inl a2))) M) ∧ (¬ (a2 = 0) → (pm_bit a2) ∧ Q (.inl (some (.inl a2))) (pm_set M 24 0 a1)))) :
    pm_X L (64, 0, [some (.inr (.inl 24)), some (.inl a1), some (.inl a2)], [], M) Q := by
  refine x_iload_n i_64_0 rfl rfl ?_
  refine x_if (C := a2 = 0) i_64_1 rfl Iff.rfl rfl ⟨fun c1 => ?_, fun c1 => ?_⟩
  · replace h := h.1 c1
    refine x_iload_n i_64_9 rfl rfl ?_
    obtain ⟨q2, h⟩ := h
    exact x_iretz i_64_10 r_64 q2 h
  · replace h := h.2 c1
    refine x_aload_n i_64_4 rfl rfl ?_
    refine x_iload_n i_64_5 rfl rfl ?_
    refine x_puti i_64_6 f_64_7 g_24 rfl rfl ?_
    refine x_iload_n i_64_9 rfl rfl ?_
    obtain ⟨q3, h⟩ := h
    exact x_iretz i_64_10 r_64 q3 h
/-! GateBenchModel.none at 0 -/
theorem s_65_0 {L : Nat} {M : pm_M} {Q : pm_P} {a1 : Int}
    (h : ((a1 < 0 → Q (.inl (some (.inl 1))) M) ∧ (¬ (a1 < 0) → ((a1 < M 24 1 → Q (.inl (some (.inl 0))) M) ∧ (¬ (a1 < M 24 1) → Q (.inl (some (.inl 1))) M))))) :
    pm_X L (65, 0, [some (.inr (.inl 24)), some (.inl a1)], [], M) Q := by
  refine x_iload_n i_65_0 rfl rfl ?_
  refine x_if (C := a1 < 0) i_65_1 rfl Iff.rfl rfl ⟨fun c1 => ?_, fun c1 => ?_⟩
  · replace h := h.1 c1
    refine x_iconst i_65_12 (by decide) rfl ?_
    refine x_goto i_65_13 rfl ?_
    exact x_iretz i_65_17 r_65 (by unfold pm_bit; decide) h
  · replace h := h.2 c1
    refine x_iload_n i_65_4 rfl rfl ?_
    refine x_aload_n i_65_5 rfl rfl ?_
    refine x_geti (v := M 24 1) i_65_6 f_65_13 g_24 rfl (rfl) rfl ?_
    refine x_icmp (C := a1 < M 24 1) i_65_9 rfl Iff.rfl rfl ⟨fun c2 => ?_, fun c2 => ?_⟩
    · replace h := h.1 c2
      refine x_iconst i_65_16 (by decide) rfl ?_
      exact x_iretz i_65_17 r_65 (by unfold pm_bit; decide) h
    · replace h := h.2 c2
      refine x_iconst i_65_12 (by decide) rfl ?_
      refine x_goto i_65_13 rfl ?_
      exact x_iretz i_65_17 r_65 (by unfold pm_bit; decide) h
/-! GateBenchModel.make at 0 -/
theorem s_66_0 {L : Nat} {M : pm_M} {Q : pm_P} {a1 a2 a3 a4 : Int}
    (h : (0 ≤ M 24 1 ∧ M 24 1 < 2000) ∧ (pm_R (M 24 1 + 1)) ∧ Q (.inl (some (.inl (M 24 1)))) (pm_set (pm_set (pm_set (pm_set (pm_set M 25 (M 24 1) a1) 26 (M 24 1) a2) 27 (M 24 1) a3) 28 (M 24 1) a4) 24 1 (M 24 1 + 1))) :
    pm_X L (66, 0, [some (.inr (.inl 24)), some (.inl a1), some (.inl a2), some (.inl a3), some (.inl a4)], [], M) Q := by
  refine x_aload_n i_66_0 rfl rfl ?_
  refine x_getr i_66_1 f_66_22 g_24 rfl rfl ?_
  refine x_aload_n i_66_4 rfl rfl ?_
  refine x_geti (v := M 24 1) i_66_5 f_66_13 g_24 rfl (rfl) rfl ?_
  refine x_iload_n i_66_8 rfl rfl ?_
  obtain ⟨q1, h⟩ := h
  refine x_iastore i_66_9 g_25 rfl q1 ?_
  refine x_aload_n i_66_10 rfl rfl ?_
  refine x_getr i_66_11 f_66_26 g_24 rfl rfl ?_
  refine x_aload_n i_66_14 rfl rfl ?_
  refine x_geti (v := M 24 1) i_66_15 f_66_13 g_24 rfl (pm_get_c (by decide) rfl) rfl ?_
  refine x_iload_n i_66_18 rfl rfl ?_
  refine x_iastore i_66_19 g_26 rfl q1 ?_
  refine x_aload_n i_66_20 rfl rfl ?_
  refine x_getr i_66_21 f_66_29 g_24 rfl rfl ?_
  refine x_aload_n i_66_24 rfl rfl ?_
  refine x_geti (v := M 24 1) i_66_25 f_66_13 g_24 rfl (pm_get_c (by decide) (pm_get_c (by decide) rfl)) rfl ?_
  refine x_iload_n i_66_28 rfl rfl ?_
  refine x_iastore i_66_29 g_27 rfl q1 ?_
  refine x_aload_n i_66_30 rfl rfl ?_
  refine x_getr i_66_31 f_66_32 g_24 rfl rfl ?_
  refine x_aload_n i_66_34 rfl rfl ?_
  refine x_geti (v := M 24 1) i_66_35 f_66_13 g_24 rfl (pm_get_c (by decide) (pm_get_c (by decide) (pm_get_c (by decide) rfl))) rfl ?_
  refine x_iload i_66_38 rfl rfl ?_
  refine x_iastore i_66_40 g_28 rfl q1 ?_
  refine x_aload_n i_66_41 rfl rfl ?_
  refine x_dup i_66_42 rfl rfl ?_
  refine x_geti (v := M 24 1) i_66_43 f_66_13 g_24 rfl (pm_get_c (by decide) (pm_get_c (by decide) (pm_get_c (by decide) (pm_get_c (by decide) rfl)))) rfl ?_
  refine x_dup_x1 i_66_46 rfl rfl rfl ?_
  refine x_iconst i_66_47 (by decide) rfl ?_
  obtain ⟨q2, h⟩ := h
  refine x_iadd i_66_48 rfl q2 ?_
  refine x_puti i_66_49 f_66_13 g_24 rfl rfl ?_
  exact x_ireti i_66_52 r_66 h
/-! GateBenchModel.input at 0 -/
theorem s_67_0 {L : Nat} {M : pm_M} {Q : pm_P}
    (h : ((M 24 2 = 12 → Q (.inl (some (.inl 0))) (pm_set (pm_set M 24 0 0) 24 0 1)) ∧ (¬ (M 24 2 = 12) → ((¬ M 24 1 = 2000 → (0 ≤ M 24 2 ∧ M 24 2 < 12) ∧ (pm_R (M 24 2 + 1)) ∧ (0 ≤ M 24 1 ∧ M 24 1 < 2000) ∧ (pm_R (M 24 1 + 1)) ∧ Q (.inl (some (.inl (M 24 1)))) (pm_set (pm_set (pm_set (pm_set (pm_set (pm_set (pm_set (pm_set M 24 0 0) 30 (M 24 2) 0) 24 2 (M 24 2 + 1)) 25 (M 24 1) 1) 26 (M 24 1) (M 24 2)) 27 (M 24 1) 0) 28 (M 24 1) 0) 24 1 (M 24 1 + 1))) ∧ (¬ (¬ M 24 1 = 2000) → Q (.inl (some (.inl 0))) (pm_set (pm_set M 24 0 0) 24 0 1)))))) :
    pm_X L (67, 0, [some (.inr (.inl 24))], [], M) Q := by
  refine x_aload_n i_67_0 rfl rfl ?_
  refine x_iconst i_67_1 (by decide) rfl ?_
  refine x_puti i_67_2 f_67_7 g_24 rfl rfl ?_
  refine x_aload_n i_67_5 rfl rfl ?_
  refine x_iconst i_67_6 (by decide) rfl ?_
  refine x_aload_n i_67_7 rfl rfl ?_
  refine x_geti (v := M 24 2) i_67_8 f_67_16 g_24 rfl (pm_get_j (by decide) rfl) rfl ?_
  refine x_bipush i_67_11 (by decide) rfl ?_
  refine x_icmp (C := M 24 2 = 12) i_67_13 rfl Iff.rfl rfl ⟨fun c1 => ?_, fun c1 => ?_⟩
  · replace h := h.1 c1
    refine x_iconst i_67_26 (by decide) rfl ?_
    refine x_goto i_67_27 rfl ?_
    refine x_callv (as := [.inl 1, .inl 1]) (rest := []) i_67_31 k_67_51 rfl rfl rfl g_24 (Nat.le_of_ble_eq_true rfl) m_64 rfl ?_
    refine x_iload_n i_64_0 rfl rfl ?_
    refine x_ifF i_64_1 rfl (by unfold pm_cmp; decide) rfl ?_
    refine x_aload_n i_64_4 rfl rfl ?_
    refine x_iload_n i_64_5 rfl rfl ?_
    refine x_puti i_64_6 f_64_7 g_24 rfl rfl ?_
    refine x_iload_n i_64_9 rfl rfl ?_
    refine x_iretz i_64_10 r_64 (by unfold pm_bit; decide) ?_
    refine x_bki rfl ?_
    refine x_ifF i_67_34 rfl (by unfold pm_cmp; decide) rfl ?_
    refine x_iconst i_67_37 (by decide) rfl ?_
    exact x_ireti i_67_38 r_67 h
  · replace h := h.2 c1
    refine x_aload_n i_67_16 rfl rfl ?_
    refine x_geti (v := M 24 1) i_67_17 f_67_13 g_24 rfl (pm_get_j (by decide) rfl) rfl ?_
    refine x_sipush i_67_20 (by decide) rfl ?_
    refine x_icmp (C := ¬ M 24 1 = 2000) i_67_23 rfl Iff.rfl rfl ⟨fun c2 => ?_, fun c2 => ?_⟩
    · replace h := h.1 c2
      refine x_iconst i_67_30 (by decide) rfl ?_
      refine x_callv (as := [.inl 1, .inl 0]) (rest := []) i_67_31 k_67_51 rfl rfl rfl g_24 (Nat.le_of_ble_eq_true rfl) m_64 rfl ?_
      refine x_iload_n i_64_0 rfl rfl ?_
      refine x_ifT i_64_1 rfl (by unfold pm_cmp; decide) ?_
      refine x_iload_n i_64_9 rfl rfl ?_
      refine x_iretz i_64_10 r_64 (by unfold pm_bit; decide) ?_
      refine x_bki rfl ?_
      refine x_ifT i_67_34 rfl (by unfold pm_cmp; decide) ?_
      refine x_aload_n i_67_39 rfl rfl ?_
      refine x_getr i_67_40 f_67_38 g_24 rfl rfl ?_
      refine x_aload_n i_67_43 rfl rfl ?_
      refine x_geti (v := M 24 2) i_67_44 f_67_16 g_24 rfl (pm_get_j (by decide) rfl) rfl ?_
      refine x_iconst i_67_47 (by decide) rfl ?_
      obtain ⟨q3, h⟩ := h
      refine x_bastore i_67_48 g_30 rfl ⟨q3, by unfold pm_bit; decide⟩ ?_
      refine x_aload_n i_67_49 rfl rfl ?_
      refine x_iconst i_67_50 (by decide) rfl ?_
      refine x_aload_n i_67_51 rfl rfl ?_
      refine x_dup i_67_52 rfl rfl ?_
      refine x_geti (v := M 24 2) i_67_53 f_67_16 g_24 rfl (pm_get_c (by decide) (pm_get_j (by decide) rfl)) rfl ?_
      refine x_dup_x1 i_67_56 rfl rfl rfl ?_
      refine x_iconst i_67_57 (by decide) rfl ?_
      obtain ⟨q4, h⟩ := h
      refine x_iadd i_67_58 rfl q4 ?_
      refine x_puti i_67_59 f_67_16 g_24 rfl rfl ?_
      refine x_iconst i_67_62 (by decide) rfl ?_
      refine x_iconst i_67_63 (by decide) rfl ?_
      refine x_callv (as := [.inl 1, .inl (M 24 2), .inl 0, .inl 0]) (rest := []) i_67_64 k_67_55 rfl rfl rfl g_24 (Nat.le_of_ble_eq_true rfl) m_66 rfl ?_
      refine x_aload_n i_66_0 rfl rfl ?_
      refine x_getr i_66_1 f_66_22 g_24 rfl rfl ?_
      refine x_aload_n i_66_4 rfl rfl ?_
      refine x_geti (v := M 24 1) i_66_5 f_66_13 g_24 rfl (pm_get_j (by decide) (pm_get_c (by decide) (pm_get_j (by decide) rfl))) rfl ?_
      refine x_iload_n i_66_8 rfl rfl ?_
      obtain ⟨q5, h⟩ := h
      refine x_iastore i_66_9 g_25 rfl q5 ?_
      refine x_aload_n i_66_10 rfl rfl ?_
      refine x_getr i_66_11 f_66_26 g_24 rfl rfl ?_
      refine x_aload_n i_66_14 rfl rfl ?_
      refine x_geti (v := M 24 1) i_66_15 f_66_13 g_24 rfl (pm_get_c (by decide) (pm_get_j (by decide) (pm_get_c (by decide) (pm_get_j (by decide) rfl)))) rfl ?_
      refine x_iload_n i_66_18 rfl rfl ?_
      refine x_iastore i_66_19 g_26 rfl q5 ?_
      refine x_aload_n i_66_20 rfl rfl ?_
      refine x_getr i_66_21 f_66_29 g_24 rfl rfl ?_
      refine x_aload_n i_66_24 rfl rfl ?_
      refine x_geti (v := M 24 1) i_66_25 f_66_13 g_24 rfl (pm_get_c (by decide) (pm_get_c (by decide) (pm_get_j (by decide) (pm_get_c (by decide) (pm_get_j (by decide) rfl))))) rfl ?_
      refine x_iload_n i_66_28 rfl rfl ?_
      refine x_iastore i_66_29 g_27 rfl q5 ?_
      refine x_aload_n i_66_30 rfl rfl ?_
      refine x_getr i_66_31 f_66_32 g_24 rfl rfl ?_
      refine x_aload_n i_66_34 rfl rfl ?_
      refine x_geti (v := M 24 1) i_66_35 f_66_13 g_24 rfl (pm_get_c (by decide) (pm_get_c (by decide) (pm_get_c (by decide) (pm_get_j (by decide) (pm_get_c (by decide) (pm_get_j (by decide) rfl)))))) rfl ?_
      refine x_iload i_66_38 rfl rfl ?_
      refine x_iastore i_66_40 g_28 rfl q5 ?_
      refine x_aload_n i_66_41 rfl rfl ?_
      refine x_dup i_66_42 rfl rfl ?_
      refine x_geti (v := M 24 1) i_66_43 f_66_13 g_24 rfl (pm_get_c (by decide) (pm_get_c (by decide) (pm_get_c (by decide) (pm_get_c (by decide) (pm_get_j (by decide) (pm_get_c (by decide) (pm_get_j (by decide) rfl))))))) rfl ?_
      refine x_dup_x1 i_66_46 rfl rfl rfl ?_
      refine x_iconst i_66_47 (by decide) rfl ?_
      obtain ⟨q6, h⟩ := h
      refine x_iadd i_66_48 rfl q6 ?_
      refine x_puti i_66_49 f_66_13 g_24 rfl rfl ?_
      refine x_ireti i_66_52 r_66 ?_
      refine x_bki rfl ?_
      exact x_ireti i_67_67 r_67 h
    · replace h := h.2 c2
      refine x_iconst i_67_26 (by decide) rfl ?_
      refine x_goto i_67_27 rfl ?_
      refine x_callv (as := [.inl 1, .inl 1]) (rest := []) i_67_31 k_67_51 rfl rfl rfl g_24 (Nat.le_of_ble_eq_true rfl) m_64 rfl ?_
      refine x_iload_n i_64_0 rfl rfl ?_
      refine x_ifF i_64_1 rfl (by unfold pm_cmp; decide) rfl ?_
      refine x_aload_n i_64_4 rfl rfl ?_
      refine x_iload_n i_64_5 rfl rfl ?_
      refine x_puti i_64_6 f_64_7 g_24 rfl rfl ?_
      refine x_iload_n i_64_9 rfl rfl ?_
      refine x_iretz i_64_10 r_64 (by unfold pm_bit; decide) ?_
      refine x_bki rfl ?_
      refine x_ifF i_67_34 rfl (by unfold pm_cmp; decide) rfl ?_
      refine x_iconst i_67_37 (by decide) rfl ?_
      exact x_ireti i_67_38 r_67 h
/-! GateBenchModel.not at 0 -/
theorem s_68_0 {L : Nat} {M : pm_M} {Q : pm_P} {a1 : Int}
    (h : ((a1 < 0 → Q (.inl (some (.inl 0))) (pm_set (pm_set M 24 0 0) 24 0 1)) ∧ (¬ (a1 < 0) → ((a1 < M 24 1 → ((¬ M 24 1 = 2000 → (0 ≤ M 24 1 ∧ M 24 1 < 2000) ∧ (pm_R (M 24 1 + 1)) ∧ Q (.inl (some (.inl (M 24 1)))) (pm_set (pm_set (pm_set (pm_set (pm_set (pm_set M 24 0 0) 25 (M 24 1) 2) 26 (M 24 1) a1) 27 (M 24 1) 0) 28 (M 24 1) 0) 24 1 (M 24 1 + 1))) ∧ (¬ (¬ M 24 1 = 2000) → Q (.inl (some (.inl 0))) (pm_set (pm_set M 24 0 0) 24 0 2)))) ∧ (¬ (a1 < M 24 1) → Q (.inl (some (.inl 0))) (pm_set (pm_set M 24 0 0) 24 0 1)))))) :
    pm_X L (68, 0, [some (.inr (.inl 24)), some (.inl a1)], [], M) Q := by
  refine x_aload_n i_68_0 rfl rfl ?_
  refine x_iconst i_68_1 (by decide) rfl ?_
  refine x_puti i_68_2 f_68_7 g_24 rfl rfl ?_
  refine x_aload_n i_68_5 rfl rfl ?_
  refine x_iconst i_68_6 (by decide) rfl ?_
  refine x_aload_n i_68_7 rfl rfl ?_
  refine x_iload_n i_68_8 rfl rfl ?_
  refine x_callv (as := [.inl a1]) (rest := [.inl 1, .inr (.inl 24)]) i_68_9 k_68_59 rfl rfl rfl g_24 (Nat.le_of_ble_eq_true rfl) m_65 rfl ?_
  refine x_iload_n i_65_0 rfl rfl ?_
  refine x_if (C := a1 < 0) i_65_1 rfl Iff.rfl rfl ⟨fun c1 => ?_, fun c1 => ?_⟩
  · replace h := h.1 c1
    refine x_iconst i_65_12 (by decide) rfl ?_
    refine x_goto i_65_13 rfl ?_
    refine x_iretz i_65_17 r_65 (by unfold pm_bit; decide) ?_
    refine x_bki rfl ?_
    refine x_callv (as := [.inl 1, .inl 1]) (rest := []) i_68_12 k_68_51 rfl rfl rfl g_24 (Nat.le_of_ble_eq_true rfl) m_64 rfl ?_
    refine x_iload_n i_64_0 rfl rfl ?_
    refine x_ifF i_64_1 rfl (by unfold pm_cmp; decide) rfl ?_
    refine x_aload_n i_64_4 rfl rfl ?_
    refine x_iload_n i_64_5 rfl rfl ?_
    refine x_puti i_64_6 f_64_7 g_24 rfl rfl ?_
    refine x_iload_n i_64_9 rfl rfl ?_
    refine x_iretz i_64_10 r_64 (by unfold pm_bit; decide) ?_
    refine x_bki rfl ?_
    refine x_ifT i_68_15 rfl (by unfold pm_cmp; decide) ?_
    refine x_iconst i_68_41 (by decide) rfl ?_
    exact x_ireti i_68_42 r_68 h
  · replace h := h.2 c1
    refine x_iload_n i_65_4 rfl rfl ?_
    refine x_aload_n i_65_5 rfl rfl ?_
    refine x_geti (v := M 24 1) i_65_6 f_65_13 g_24 rfl (pm_get_j (by decide) rfl) rfl ?_
    refine x_icmp (C := a1 < M 24 1) i_65_9 rfl Iff.rfl rfl ⟨fun c2 => ?_, fun c2 => ?_⟩
    · replace h := h.1 c2
      refine x_iconst i_65_16 (by decide) rfl ?_
      refine x_iretz i_65_17 r_65 (by unfold pm_bit; decide) ?_
      refine x_bki rfl ?_
      refine x_callv (as := [.inl 1, .inl 0]) (rest := []) i_68_12 k_68_51 rfl rfl rfl g_24 (Nat.le_of_ble_eq_true rfl) m_64 rfl ?_
      refine x_iload_n i_64_0 rfl rfl ?_
      refine x_ifT i_64_1 rfl (by unfold pm_cmp; decide) ?_
      refine x_iload_n i_64_9 rfl rfl ?_
      refine x_iretz i_64_10 r_64 (by unfold pm_bit; decide) ?_
      refine x_bki rfl ?_
      refine x_ifF i_68_15 rfl (by unfold pm_cmp; decide) rfl ?_
      refine x_aload_n i_68_18 rfl rfl ?_
      refine x_iconst i_68_19 (by decide) rfl ?_
      refine x_aload_n i_68_20 rfl rfl ?_
      refine x_geti (v := M 24 1) i_68_21 f_68_13 g_24 rfl (pm_get_j (by decide) rfl) rfl ?_
      refine x_sipush i_68_24 (by decide) rfl ?_
      refine x_icmp (C := ¬ M 24 1 = 2000) i_68_27 rfl Iff.rfl rfl ⟨fun c3 => ?_, fun c3 => ?_⟩
      · replace h := h.1 c3
        refine x_iconst i_68_34 (by decide) rfl ?_
        refine x_callv (as := [.inl 2, .inl 0]) (rest := []) i_68_35 k_68_51 rfl rfl rfl g_24 (Nat.le_of_ble_eq_true rfl) m_64 rfl ?_
        refine x_iload_n i_64_0 rfl rfl ?_
        refine x_ifT i_64_1 rfl (by unfold pm_cmp; decide) ?_
        refine x_iload_n i_64_9 rfl rfl ?_
        refine x_iretz i_64_10 r_64 (by unfold pm_bit; decide) ?_
        refine x_bki rfl ?_
        refine x_ifT i_68_38 rfl (by unfold pm_cmp; decide) ?_
        refine x_aload_n i_68_43 rfl rfl ?_
        refine x_iconst i_68_44 (by decide) rfl ?_
        refine x_iload_n i_68_45 rfl rfl ?_
        refine x_iconst i_68_46 (by decide) rfl ?_
        refine x_iconst i_68_47 (by decide) rfl ?_
        refine x_callv (as := [.inl 2, .inl a1, .inl 0, .inl 0]) (rest := []) i_68_48 k_68_55 rfl rfl rfl g_24 (Nat.le_of_ble_eq_true rfl) m_66 rfl ?_
        refine x_aload_n i_66_0 rfl rfl ?_
        refine x_getr i_66_1 f_66_22 g_24 rfl rfl ?_
        refine x_aload_n i_66_4 rfl rfl ?_
        refine x_geti (v := M 24 1) i_66_5 f_66_13 g_24 rfl (pm_get_j (by decide) rfl) rfl ?_
        refine x_iload_n i_66_8 rfl rfl ?_
        obtain ⟨q4, h⟩ := h
        refine x_iastore i_66_9 g_25 rfl q4 ?_
        refine x_aload_n i_66_10 rfl rfl ?_
        refine x_getr i_66_11 f_66_26 g_24 rfl rfl ?_
        refine x_aload_n i_66_14 rfl rfl ?_
        refine x_geti (v := M 24 1) i_66_15 f_66_13 g_24 rfl (pm_get_c (by decide) (pm_get_j (by decide) rfl)) rfl ?_
        refine x_iload_n i_66_18 rfl rfl ?_
        refine x_iastore i_66_19 g_26 rfl q4 ?_
        refine x_aload_n i_66_20 rfl rfl ?_
        refine x_getr i_66_21 f_66_29 g_24 rfl rfl ?_
        refine x_aload_n i_66_24 rfl rfl ?_
        refine x_geti (v := M 24 1) i_66_25 f_66_13 g_24 rfl (pm_get_c (by decide) (pm_get_c (by decide) (pm_get_j (by decide) rfl))) rfl ?_
        refine x_iload_n i_66_28 rfl rfl ?_
        refine x_iastore i_66_29 g_27 rfl q4 ?_
        refine x_aload_n i_66_30 rfl rfl ?_
        refine x_getr i_66_31 f_66_32 g_24 rfl rfl ?_
        refine x_aload_n i_66_34 rfl rfl ?_
        refine x_geti (v := M 24 1) i_66_35 f_66_13 g_24 rfl (pm_get_c (by decide) (pm_get_c (by decide) (pm_get_c (by decide) (pm_get_j (by decide) rfl)))) rfl ?_
        refine x_iload i_66_38 rfl rfl ?_
        refine x_iastore i_66_40 g_28 rfl q4 ?_
        refine x_aload_n i_66_41 rfl rfl ?_
        refine x_dup i_66_42 rfl rfl ?_
        refine x_geti (v := M 24 1) i_66_43 f_66_13 g_24 rfl (pm_get_c (by decide) (pm_get_c (by decide) (pm_get_c (by decide) (pm_get_c (by decide) (pm_get_j (by decide) rfl))))) rfl ?_
        refine x_dup_x1 i_66_46 rfl rfl rfl ?_
        refine x_iconst i_66_47 (by decide) rfl ?_
        obtain ⟨q5, h⟩ := h
        refine x_iadd i_66_48 rfl q5 ?_
        refine x_puti i_66_49 f_66_13 g_24 rfl rfl ?_
        refine x_ireti i_66_52 r_66 ?_
        refine x_bki rfl ?_
        exact x_ireti i_68_51 r_68 h
      · replace h := h.2 c3
        refine x_iconst i_68_30 (by decide) rfl ?_
        refine x_goto i_68_31 rfl ?_
        refine x_callv (as := [.inl 2, .inl 1]) (rest := []) i_68_35 k_68_51 rfl rfl rfl g_24 (Nat.le_of_ble_eq_true rfl) m_64 rfl ?_
        refine x_iload_n i_64_0 rfl rfl ?_
        refine x_ifF i_64_1 rfl (by unfold pm_cmp; decide) rfl ?_
        refine x_aload_n i_64_4 rfl rfl ?_
        refine x_iload_n i_64_5 rfl rfl ?_
        refine x_puti i_64_6 f_64_7 g_24 rfl rfl ?_
        refine x_iload_n i_64_9 rfl rfl ?_
        refine x_iretz i_64_10 r_64 (by unfold pm_bit; decide) ?_
        refine x_bki rfl ?_
        refine x_ifF i_68_38 rfl (by unfold pm_cmp; decide) rfl ?_
        refine x_iconst i_68_41 (by decide) rfl ?_
        exact x_ireti i_68_42 r_68 h
    · replace h := h.2 c2
      refine x_iconst i_65_12 (by decide) rfl ?_
      refine x_goto i_65_13 rfl ?_
      refine x_iretz i_65_17 r_65 (by unfold pm_bit; decide) ?_
      refine x_bki rfl ?_
      refine x_callv (as := [.inl 1, .inl 1]) (rest := []) i_68_12 k_68_51 rfl rfl rfl g_24 (Nat.le_of_ble_eq_true rfl) m_64 rfl ?_
      refine x_iload_n i_64_0 rfl rfl ?_
      refine x_ifF i_64_1 rfl (by unfold pm_cmp; decide) rfl ?_
      refine x_aload_n i_64_4 rfl rfl ?_
      refine x_iload_n i_64_5 rfl rfl ?_
      refine x_puti i_64_6 f_64_7 g_24 rfl rfl ?_
      refine x_iload_n i_64_9 rfl rfl ?_
      refine x_iretz i_64_10 r_64 (by unfold pm_bit; decide) ?_
      refine x_bki rfl ?_
      refine x_ifT i_68_15 rfl (by unfold pm_cmp; decide) ?_
      refine x_iconst i_68_41 (by decide) rfl ?_
      exact x_ireti i_68_42 r_68 h
/-! GateBenchModel.join at 0 -/
theorem s_69_0 {L : Nat} {M : pm_M} {Q : pm_P} {a1 a2 a3 : Int}
    (h : ((a2 < 0 → Q (.inl (some (.inl 0))) (pm_set (pm_set M 24 0 0) 24 0 1)) ∧ (¬ (a2 < 0) → ((a2 < M 24 1 → ((a3 < 0 → Q (.inl (some (.inl 0))) (pm_set (pm_set M 24 0 0) 24 0 1)) ∧ (¬ (a3 < 0) → ((a3 < M 24 1 → ((a1 < 0 → Q (.inl (some (.inl 0))) (pm_set (pm_set M 24 0 0) 24 0 2)) ∧ (¬ (a1 < 0) → ((a1 ≤ 2 → ((¬ M 24 1 = 2000 → (pm_R (3 + a1)) ∧ (0 ≤ M 24 1 ∧ M 24 1 < 2000) ∧ (pm_R (M 24 1 + 1)) ∧ Q (.inl (some (.inl (M 24 1)))) (pm_set (pm_set (pm_set (pm_set (pm_set (pm_set M 24 0 0) 25 (M 24 1) (3 + a1)) 26 (M 24 1) a2) 27 (M 24 1) a3) 28 (M 24 1) 0) 24 1 (M 24 1 + 1))) ∧ (¬ (¬ M 24 1 = 2000) → Q (.inl (some (.inl 0))) (pm_set (pm_set M 24 0 0) 24 0 3)))) ∧ (¬ (a1 ≤ 2) → Q (.inl (some (.inl 0))) (pm_set (pm_set M 24 0 0) 24 0 2)))))) ∧ (¬ (a3 < M 24 1) → Q (.inl (some (.inl 0))) (pm_set (pm_set M 24 0 0) 24 0 1)))))) ∧ (¬ (a2 < M 24 1) → Q (.inl (some (.inl 0))) (pm_set (pm_set M 24 0 0) 24 0 1)))))) :
    pm_X L (69, 0, [some (.inr (.inl 24)), some (.inl a1), some (.inl a2), some (.inl a3)], [], M) Q := by
  refine x_aload_n i_69_0 rfl rfl ?_
  refine x_iconst i_69_1 (by decide) rfl ?_
  refine x_puti i_69_2 f_69_7 g_24 rfl rfl ?_
  refine x_aload_n i_69_5 rfl rfl ?_
  refine x_iconst i_69_6 (by decide) rfl ?_
  refine x_aload_n i_69_7 rfl rfl ?_
  refine x_iload_n i_69_8 rfl rfl ?_
  refine x_callv (as := [.inl a2]) (rest := [.inl 1, .inr (.inl 24)]) i_69_9 k_69_59 rfl rfl rfl g_24 (Nat.le_of_ble_eq_true rfl) m_65 rfl ?_
  refine x_iload_n i_65_0 rfl rfl ?_
  refine x_if (C := a2 < 0) i_65_1 rfl Iff.rfl rfl ⟨fun c1 => ?_, fun c1 => ?_⟩
  · replace h := h.1 c1
    refine x_iconst i_65_12 (by decide) rfl ?_
    refine x_goto i_65_13 rfl ?_
    refine x_iretz i_65_17 r_65 (by unfold pm_bit; decide) ?_
    refine x_bki rfl ?_
    refine x_ifT i_69_12 rfl (by unfold pm_cmp; decide) ?_
    refine x_iconst i_69_23 (by decide) rfl ?_
    refine x_goto i_69_24 rfl ?_
    refine x_callv (as := [.inl 1, .inl 1]) (rest := []) i_69_28 k_69_51 rfl rfl rfl g_24 (Nat.le_of_ble_eq_true rfl) m_64 rfl ?_
    refine x_iload_n i_64_0 rfl rfl ?_
    refine x_ifF i_64_1 rfl (by unfold pm_cmp; decide) rfl ?_
    refine x_aload_n i_64_4 rfl rfl ?_
    refine x_iload_n i_64_5 rfl rfl ?_
    refine x_puti i_64_6 f_64_7 g_24 rfl rfl ?_
    refine x_iload_n i_64_9 rfl rfl ?_
    refine x_iretz i_64_10 r_64 (by unfold pm_bit; decide) ?_
    refine x_bki rfl ?_
    refine x_ifT i_69_31 rfl (by unfold pm_cmp; decide) ?_
    refine x_iconst i_69_79 (by decide) rfl ?_
    exact x_ireti i_69_80 r_69 h
  · replace h := h.2 c1
    refine x_iload_n i_65_4 rfl rfl ?_
    refine x_aload_n i_65_5 rfl rfl ?_
    refine x_geti (v := M 24 1) i_65_6 f_65_13 g_24 rfl (pm_get_j (by decide) rfl) rfl ?_
    refine x_icmp (C := a2 < M 24 1) i_65_9 rfl Iff.rfl rfl ⟨fun c2 => ?_, fun c2 => ?_⟩
    · replace h := h.1 c2
      refine x_iconst i_65_16 (by decide) rfl ?_
      refine x_iretz i_65_17 r_65 (by unfold pm_bit; decide) ?_
      refine x_bki rfl ?_
      refine x_ifF i_69_12 rfl (by unfold pm_cmp; decide) rfl ?_
      refine x_aload_n i_69_15 rfl rfl ?_
      refine x_iload_n i_69_16 rfl rfl ?_
      refine x_callv (as := [.inl a3]) (rest := [.inl 1, .inr (.inl 24)]) i_69_17 k_69_59 rfl rfl rfl g_24 (Nat.le_of_ble_eq_true rfl) m_65 rfl ?_
      refine x_iload_n i_65_0 rfl rfl ?_
      refine x_if (C := a3 < 0) i_65_1 rfl Iff.rfl rfl ⟨fun c3 => ?_, fun c3 => ?_⟩
      · replace h := h.1 c3
        refine x_iconst i_65_12 (by decide) rfl ?_
        refine x_goto i_65_13 rfl ?_
        refine x_iretz i_65_17 r_65 (by unfold pm_bit; decide) ?_
        refine x_bki rfl ?_
        refine x_ifF i_69_20 rfl (by unfold pm_cmp; decide) rfl ?_
        refine x_iconst i_69_23 (by decide) rfl ?_
        refine x_goto i_69_24 rfl ?_
        refine x_callv (as := [.inl 1, .inl 1]) (rest := []) i_69_28 k_69_51 rfl rfl rfl g_24 (Nat.le_of_ble_eq_true rfl) m_64 rfl ?_
        refine x_iload_n i_64_0 rfl rfl ?_
        refine x_ifF i_64_1 rfl (by unfold pm_cmp; decide) rfl ?_
        refine x_aload_n i_64_4 rfl rfl ?_
        refine x_iload_n i_64_5 rfl rfl ?_
        refine x_puti i_64_6 f_64_7 g_24 rfl rfl ?_
        refine x_iload_n i_64_9 rfl rfl ?_
        refine x_iretz i_64_10 r_64 (by unfold pm_bit; decide) ?_
        refine x_bki rfl ?_
        refine x_ifT i_69_31 rfl (by unfold pm_cmp; decide) ?_
        refine x_iconst i_69_79 (by decide) rfl ?_
        exact x_ireti i_69_80 r_69 h
      · replace h := h.2 c3
        refine x_iload_n i_65_4 rfl rfl ?_
        refine x_aload_n i_65_5 rfl rfl ?_
        refine x_geti (v := M 24 1) i_65_6 f_65_13 g_24 rfl (pm_get_j (by decide) rfl) rfl ?_
        refine x_icmp (C := a3 < M 24 1) i_65_9 rfl Iff.rfl rfl ⟨fun c4 => ?_, fun c4 => ?_⟩
        · replace h := h.1 c4
          refine x_iconst i_65_16 (by decide) rfl ?_
          refine x_iretz i_65_17 r_65 (by unfold pm_bit; decide) ?_
          refine x_bki rfl ?_
          refine x_ifT i_69_20 rfl (by unfold pm_cmp; decide) ?_
          refine x_iconst i_69_27 (by decide) rfl ?_
          refine x_callv (as := [.inl 1, .inl 0]) (rest := []) i_69_28 k_69_51 rfl rfl rfl g_24 (Nat.le_of_ble_eq_true rfl) m_64 rfl ?_
          refine x_iload_n i_64_0 rfl rfl ?_
          refine x_ifT i_64_1 rfl (by unfold pm_cmp; decide) ?_
          refine x_iload_n i_64_9 rfl rfl ?_
          refine x_iretz i_64_10 r_64 (by unfold pm_bit; decide) ?_
          refine x_bki rfl ?_
          refine x_ifF i_69_31 rfl (by unfold pm_cmp; decide) rfl ?_
          refine x_aload_n i_69_34 rfl rfl ?_
          refine x_iconst i_69_35 (by decide) rfl ?_
          refine x_iload_n i_69_36 rfl rfl ?_
          refine x_if (C := a1 < 0) i_69_37 rfl Iff.rfl rfl ⟨fun c5 => ?_, fun c5 => ?_⟩
          · replace h := h.1 c5
            refine x_iconst i_69_45 (by decide) rfl ?_
            refine x_goto i_69_46 rfl ?_
            refine x_callv (as := [.inl 2, .inl 1]) (rest := []) i_69_50 k_69_51 rfl rfl rfl g_24 (Nat.le_of_ble_eq_true rfl) m_64 rfl ?_
            refine x_iload_n i_64_0 rfl rfl ?_
            refine x_ifF i_64_1 rfl (by unfold pm_cmp; decide) rfl ?_
            refine x_aload_n i_64_4 rfl rfl ?_
            refine x_iload_n i_64_5 rfl rfl ?_
            refine x_puti i_64_6 f_64_7 g_24 rfl rfl ?_
            refine x_iload_n i_64_9 rfl rfl ?_
            refine x_iretz i_64_10 r_64 (by unfold pm_bit; decide) ?_
            refine x_bki rfl ?_
            refine x_ifT i_69_53 rfl (by unfold pm_cmp; decide) ?_
            refine x_iconst i_69_79 (by decide) rfl ?_
            exact x_ireti i_69_80 r_69 h
          · replace h := h.2 c5
            refine x_iload_n i_69_40 rfl rfl ?_
            refine x_iconst i_69_41 (by decide) rfl ?_
            refine x_icmp (C := a1 ≤ 2) i_69_42 rfl Iff.rfl rfl ⟨fun c6 => ?_, fun c6 => ?_⟩
            · replace h := h.1 c6
              refine x_iconst i_69_49 (by decide) rfl ?_
              refine x_callv (as := [.inl 2, .inl 0]) (rest := []) i_69_50 k_69_51 rfl rfl rfl g_24 (Nat.le_of_ble_eq_true rfl) m_64 rfl ?_
              refine x_iload_n i_64_0 rfl rfl ?_
              refine x_ifT i_64_1 rfl (by unfold pm_cmp; decide) ?_
              refine x_iload_n i_64_9 rfl rfl ?_
              refine x_iretz i_64_10 r_64 (by unfold pm_bit; decide) ?_
              refine x_bki rfl ?_
              refine x_ifF i_69_53 rfl (by unfold pm_cmp; decide) rfl ?_
              refine x_aload_n i_69_56 rfl rfl ?_
              refine x_iconst i_69_57 (by decide) rfl ?_
              refine x_aload_n i_69_58 rfl rfl ?_
              refine x_geti (v := M 24 1) i_69_59 f_69_13 g_24 rfl (pm_get_j (by decide) rfl) rfl ?_
              refine x_sipush i_69_62 (by decide) rfl ?_
              refine x_icmp (C := ¬ M 24 1 = 2000) i_69_65 rfl Iff.rfl rfl ⟨fun c7 => ?_, fun c7 => ?_⟩
              · replace h := h.1 c7
                refine x_iconst i_69_72 (by decide) rfl ?_
                refine x_callv (as := [.inl 3, .inl 0]) (rest := []) i_69_73 k_69_51 rfl rfl rfl g_24 (Nat.le_of_ble_eq_true rfl) m_64 rfl ?_
                refine x_iload_n i_64_0 rfl rfl ?_
                refine x_ifT i_64_1 rfl (by unfold pm_cmp; decide) ?_
                refine x_iload_n i_64_9 rfl rfl ?_
                refine x_iretz i_64_10 r_64 (by unfold pm_bit; decide) ?_
                refine x_bki rfl ?_
                refine x_ifT i_69_76 rfl (by unfold pm_cmp; decide) ?_
                refine x_aload_n i_69_81 rfl rfl ?_
                refine x_iconst i_69_82 (by decide) rfl ?_
                refine x_iload_n i_69_83 rfl rfl ?_
                obtain ⟨q8, h⟩ := h
                refine x_iadd i_69_84 rfl q8 ?_
                refine x_iload_n i_69_85 rfl rfl ?_
                refine x_iload_n i_69_86 rfl rfl ?_
                refine x_iconst i_69_87 (by decide) rfl ?_
                refine x_callv (as := [.inl (3 + a1), .inl a2, .inl a3, .inl 0]) (rest := []) i_69_88 k_69_55 rfl rfl rfl g_24 (Nat.le_of_ble_eq_true rfl) m_66 rfl ?_
                refine x_aload_n i_66_0 rfl rfl ?_
                refine x_getr i_66_1 f_66_22 g_24 rfl rfl ?_
                refine x_aload_n i_66_4 rfl rfl ?_
                refine x_geti (v := M 24 1) i_66_5 f_66_13 g_24 rfl (pm_get_j (by decide) rfl) rfl ?_
                refine x_iload_n i_66_8 rfl rfl ?_
                obtain ⟨q9, h⟩ := h
                refine x_iastore i_66_9 g_25 rfl q9 ?_
                refine x_aload_n i_66_10 rfl rfl ?_
                refine x_getr i_66_11 f_66_26 g_24 rfl rfl ?_
                refine x_aload_n i_66_14 rfl rfl ?_
                refine x_geti (v := M 24 1) i_66_15 f_66_13 g_24 rfl (pm_get_c (by decide) (pm_get_j (by decide) rfl)) rfl ?_
                refine x_iload_n i_66_18 rfl rfl ?_
                refine x_iastore i_66_19 g_26 rfl q9 ?_
                refine x_aload_n i_66_20 rfl rfl ?_
                refine x_getr i_66_21 f_66_29 g_24 rfl rfl ?_
                refine x_aload_n i_66_24 rfl rfl ?_
                refine x_geti (v := M 24 1) i_66_25 f_66_13 g_24 rfl (pm_get_c (by decide) (pm_get_c (by decide) (pm_get_j (by decide) rfl))) rfl ?_
                refine x_iload_n i_66_28 rfl rfl ?_
                refine x_iastore i_66_29 g_27 rfl q9 ?_
                refine x_aload_n i_66_30 rfl rfl ?_
                refine x_getr i_66_31 f_66_32 g_24 rfl rfl ?_
                refine x_aload_n i_66_34 rfl rfl ?_
                refine x_geti (v := M 24 1) i_66_35 f_66_13 g_24 rfl (pm_get_c (by decide) (pm_get_c (by decide) (pm_get_c (by decide) (pm_get_j (by decide) rfl)))) rfl ?_
                refine x_iload i_66_38 rfl rfl ?_
                refine x_iastore i_66_40 g_28 rfl q9 ?_
                refine x_aload_n i_66_41 rfl rfl ?_
                refine x_dup i_66_42 rfl rfl ?_
                refine x_geti (v := M 24 1) i_66_43 f_66_13 g_24 rfl (pm_get_c (by decide) (pm_get_c (by decide) (pm_get_c (by decide) (pm_get_c (by decide) (pm_get_j (by decide) rfl))))) rfl ?_
                refine x_dup_x1 i_66_46 rfl rfl rfl ?_
                refine x_iconst i_66_47 (by decide) rfl ?_
                obtain ⟨q10, h⟩ := h
                refine x_iadd i_66_48 rfl q10 ?_
                refine x_puti i_66_49 f_66_13 g_24 rfl rfl ?_
                refine x_ireti i_66_52 r_66 ?_
                refine x_bki rfl ?_
                exact x_ireti i_69_91 r_69 h
              · replace h := h.2 c7
                refine x_iconst i_69_68 (by decide) rfl ?_
                refine x_goto i_69_69 rfl ?_
                refine x_callv (as := [.inl 3, .inl 1]) (rest := []) i_69_73 k_69_51 rfl rfl rfl g_24 (Nat.le_of_ble_eq_true rfl) m_64 rfl ?_
                refine x_iload_n i_64_0 rfl rfl ?_
                refine x_ifF i_64_1 rfl (by unfold pm_cmp; decide) rfl ?_
                refine x_aload_n i_64_4 rfl rfl ?_
                refine x_iload_n i_64_5 rfl rfl ?_
                refine x_puti i_64_6 f_64_7 g_24 rfl rfl ?_
                refine x_iload_n i_64_9 rfl rfl ?_
                refine x_iretz i_64_10 r_64 (by unfold pm_bit; decide) ?_
                refine x_bki rfl ?_
                refine x_ifF i_69_76 rfl (by unfold pm_cmp; decide) rfl ?_
                refine x_iconst i_69_79 (by decide) rfl ?_
                exact x_ireti i_69_80 r_69 h
            · replace h := h.2 c6
              refine x_iconst i_69_45 (by decide) rfl ?_
              refine x_goto i_69_46 rfl ?_
              refine x_callv (as := [.inl 2, .inl 1]) (rest := []) i_69_50 k_69_51 rfl rfl rfl g_24 (Nat.le_of_ble_eq_true rfl) m_64 rfl ?_
              refine x_iload_n i_64_0 rfl rfl ?_
              refine x_ifF i_64_1 rfl (by unfold pm_cmp; decide) rfl ?_
              refine x_aload_n i_64_4 rfl rfl ?_
              refine x_iload_n i_64_5 rfl rfl ?_
              refine x_puti i_64_6 f_64_7 g_24 rfl rfl ?_
              refine x_iload_n i_64_9 rfl rfl ?_
              refine x_iretz i_64_10 r_64 (by unfold pm_bit; decide) ?_
              refine x_bki rfl ?_
              refine x_ifT i_69_53 rfl (by unfold pm_cmp; decide) ?_
              refine x_iconst i_69_79 (by decide) rfl ?_
              exact x_ireti i_69_80 r_69 h
        · replace h := h.2 c4
          refine x_iconst i_65_12 (by decide) rfl ?_
          refine x_goto i_65_13 rfl ?_
          refine x_iretz i_65_17 r_65 (by unfold pm_bit; decide) ?_
          refine x_bki rfl ?_
          refine x_ifF i_69_20 rfl (by unfold pm_cmp; decide) rfl ?_
          refine x_iconst i_69_23 (by decide) rfl ?_
          refine x_goto i_69_24 rfl ?_
          refine x_callv (as := [.inl 1, .inl 1]) (rest := []) i_69_28 k_69_51 rfl rfl rfl g_24 (Nat.le_of_ble_eq_true rfl) m_64 rfl ?_
          refine x_iload_n i_64_0 rfl rfl ?_
          refine x_ifF i_64_1 rfl (by unfold pm_cmp; decide) rfl ?_
          refine x_aload_n i_64_4 rfl rfl ?_
          refine x_iload_n i_64_5 rfl rfl ?_
          refine x_puti i_64_6 f_64_7 g_24 rfl rfl ?_
          refine x_iload_n i_64_9 rfl rfl ?_
          refine x_iretz i_64_10 r_64 (by unfold pm_bit; decide) ?_
          refine x_bki rfl ?_
          refine x_ifT i_69_31 rfl (by unfold pm_cmp; decide) ?_
          refine x_iconst i_69_79 (by decide) rfl ?_
          exact x_ireti i_69_80 r_69 h
    · replace h := h.2 c2
      refine x_iconst i_65_12 (by decide) rfl ?_
      refine x_goto i_65_13 rfl ?_
      refine x_iretz i_65_17 r_65 (by unfold pm_bit; decide) ?_
      refine x_bki rfl ?_
      refine x_ifT i_69_12 rfl (by unfold pm_cmp; decide) ?_
      refine x_iconst i_69_23 (by decide) rfl ?_
      refine x_goto i_69_24 rfl ?_
      refine x_callv (as := [.inl 1, .inl 1]) (rest := []) i_69_28 k_69_51 rfl rfl rfl g_24 (Nat.le_of_ble_eq_true rfl) m_64 rfl ?_
      refine x_iload_n i_64_0 rfl rfl ?_
      refine x_ifF i_64_1 rfl (by unfold pm_cmp; decide) rfl ?_
      refine x_aload_n i_64_4 rfl rfl ?_
      refine x_iload_n i_64_5 rfl rfl ?_
      refine x_puti i_64_6 f_64_7 g_24 rfl rfl ?_
      refine x_iload_n i_64_9 rfl rfl ?_
      refine x_iretz i_64_10 r_64 (by unfold pm_bit; decide) ?_
      refine x_bki rfl ?_
      refine x_ifT i_69_31 rfl (by unfold pm_cmp; decide) ?_
      refine x_iconst i_69_79 (by decide) rfl ?_
      exact x_ireti i_69_80 r_69 h
/-! GateBenchModel.choose at 0 -/
theorem s_70_0 {L : Nat} {M : pm_M} {Q : pm_P} {a1 a2 a3 : Int}
    (h : ((a1 < 0 → Q (.inl (some (.inl 0))) (pm_set (pm_set M 24 0 0) 24 0 1)) ∧ (¬ (a1 < 0) → ((a1 < M 24 1 → ((a2 < 0 → Q (.inl (some (.inl 0))) (pm_set (pm_set M 24 0 0) 24 0 1)) ∧ (¬ (a2 < 0) → ((a2 < M 24 1 → ((a3 < 0 → Q (.inl (some (.inl 0))) (pm_set (pm_set M 24 0 0) 24 0 1)) ∧ (¬ (a3 < 0) → ((a3 < M 24 1 → ((¬ M 24 1 = 2000 → (0 ≤ M 24 1 ∧ M 24 1 < 2000) ∧ (pm_R (M 24 1 + 1)) ∧ Q (.inl (some (.inl (M 24 1)))) (pm_set (pm_set (pm_set (pm_set (pm_set (pm_set M 24 0 0) 25 (M 24 1) 6) 26 (M 24 1) a1) 27 (M 24 1) a2) 28 (M 24 1) a3) 24 1 (M 24 1 + 1))) ∧ (¬ (¬ M 24 1 = 2000) → Q (.inl (some (.inl 0))) (pm_set (pm_set M 24 0 0) 24 0 2)))) ∧ (¬ (a3 < M 24 1) → Q (.inl (some (.inl 0))) (pm_set (pm_set M 24 0 0) 24 0 1)))))) ∧ (¬ (a2 < M 24 1) → Q (.inl (some (.inl 0))) (pm_set (pm_set M 24 0 0) 24 0 1)))))) ∧ (¬ (a1 < M 24 1) → Q (.inl (some (.inl 0))) (pm_set (pm_set M 24 0 0) 24 0 1)))))) :
    pm_X L (70, 0, [some (.inr (.inl 24)), some (.inl a1), some (.inl a2), some (.inl a3)], [], M) Q := by
  refine x_aload_n i_70_0 rfl rfl ?_
  refine x_iconst i_70_1 (by decide) rfl ?_
  refine x_puti i_70_2 f_70_7 g_24 rfl rfl ?_
  refine x_aload_n i_70_5 rfl rfl ?_
  refine x_iconst i_70_6 (by decide) rfl ?_
  refine x_aload_n i_70_7 rfl rfl ?_
  refine x_iload_n i_70_8 rfl rfl ?_
  refine x_callv (as := [.inl a1]) (rest := [.inl 1, .inr (.inl 24)]) i_70_9 k_70_59 rfl rfl rfl g_24 (Nat.le_of_ble_eq_true rfl) m_65 rfl ?_
  refine x_iload_n i_65_0 rfl rfl ?_
  refine x_if (C := a1 < 0) i_65_1 rfl Iff.rfl rfl ⟨fun c1 => ?_, fun c1 => ?_⟩
  · replace h := h.1 c1
    refine x_iconst i_65_12 (by decide) rfl ?_
    refine x_goto i_65_13 rfl ?_
    refine x_iretz i_65_17 r_65 (by unfold pm_bit; decide) ?_
    refine x_bki rfl ?_
    refine x_ifT i_70_12 rfl (by unfold pm_cmp; decide) ?_
    refine x_iconst i_70_31 (by decide) rfl ?_
    refine x_goto i_70_32 rfl ?_
    refine x_callv (as := [.inl 1, .inl 1]) (rest := []) i_70_36 k_70_51 rfl rfl rfl g_24 (Nat.le_of_ble_eq_true rfl) m_64 rfl ?_
    refine x_iload_n i_64_0 rfl rfl ?_
    refine x_ifF i_64_1 rfl (by unfold pm_cmp; decide) rfl ?_
    refine x_aload_n i_64_4 rfl rfl ?_
    refine x_iload_n i_64_5 rfl rfl ?_
    refine x_puti i_64_6 f_64_7 g_24 rfl rfl ?_
    refine x_iload_n i_64_9 rfl rfl ?_
    refine x_iretz i_64_10 r_64 (by unfold pm_bit; decide) ?_
    refine x_bki rfl ?_
    refine x_ifT i_70_39 rfl (by unfold pm_cmp; decide) ?_
    refine x_iconst i_70_65 (by decide) rfl ?_
    exact x_ireti i_70_66 r_70 h
  · replace h := h.2 c1
    refine x_iload_n i_65_4 rfl rfl ?_
    refine x_aload_n i_65_5 rfl rfl ?_
    refine x_geti (v := M 24 1) i_65_6 f_65_13 g_24 rfl (pm_get_j (by decide) rfl) rfl ?_
    refine x_icmp (C := a1 < M 24 1) i_65_9 rfl Iff.rfl rfl ⟨fun c2 => ?_, fun c2 => ?_⟩
    · replace h := h.1 c2
      refine x_iconst i_65_16 (by decide) rfl ?_
      refine x_iretz i_65_17 r_65 (by unfold pm_bit; decide) ?_
      refine x_bki rfl ?_
      refine x_ifF i_70_12 rfl (by unfold pm_cmp; decide) rfl ?_
      refine x_aload_n i_70_15 rfl rfl ?_
      refine x_iload_n i_70_16 rfl rfl ?_
      refine x_callv (as := [.inl a2]) (rest := [.inl 1, .inr (.inl 24)]) i_70_17 k_70_59 rfl rfl rfl g_24 (Nat.le_of_ble_eq_true rfl) m_65 rfl ?_
      refine x_iload_n i_65_0 rfl rfl ?_
      refine x_if (C := a2 < 0) i_65_1 rfl Iff.rfl rfl ⟨fun c3 => ?_, fun c3 => ?_⟩
      · replace h := h.1 c3
        refine x_iconst i_65_12 (by decide) rfl ?_
        refine x_goto i_65_13 rfl ?_
        refine x_iretz i_65_17 r_65 (by unfold pm_bit; decide) ?_
        refine x_bki rfl ?_
        refine x_ifT i_70_20 rfl (by unfold pm_cmp; decide) ?_
        refine x_iconst i_70_31 (by decide) rfl ?_
        refine x_goto i_70_32 rfl ?_
        refine x_callv (as := [.inl 1, .inl 1]) (rest := []) i_70_36 k_70_51 rfl rfl rfl g_24 (Nat.le_of_ble_eq_true rfl) m_64 rfl ?_
        refine x_iload_n i_64_0 rfl rfl ?_
        refine x_ifF i_64_1 rfl (by unfold pm_cmp; decide) rfl ?_
        refine x_aload_n i_64_4 rfl rfl ?_
        refine x_iload_n i_64_5 rfl rfl ?_
        refine x_puti i_64_6 f_64_7 g_24 rfl rfl ?_
        refine x_iload_n i_64_9 rfl rfl ?_
        refine x_iretz i_64_10 r_64 (by unfold pm_bit; decide) ?_
        refine x_bki rfl ?_
        refine x_ifT i_70_39 rfl (by unfold pm_cmp; decide) ?_
        refine x_iconst i_70_65 (by decide) rfl ?_
        exact x_ireti i_70_66 r_70 h
      · replace h := h.2 c3
        refine x_iload_n i_65_4 rfl rfl ?_
        refine x_aload_n i_65_5 rfl rfl ?_
        refine x_geti (v := M 24 1) i_65_6 f_65_13 g_24 rfl (pm_get_j (by decide) rfl) rfl ?_
        refine x_icmp (C := a2 < M 24 1) i_65_9 rfl Iff.rfl rfl ⟨fun c4 => ?_, fun c4 => ?_⟩
        · replace h := h.1 c4
          refine x_iconst i_65_16 (by decide) rfl ?_
          refine x_iretz i_65_17 r_65 (by unfold pm_bit; decide) ?_
          refine x_bki rfl ?_
          refine x_ifF i_70_20 rfl (by unfold pm_cmp; decide) rfl ?_
          refine x_aload_n i_70_23 rfl rfl ?_
          refine x_iload_n i_70_24 rfl rfl ?_
          refine x_callv (as := [.inl a3]) (rest := [.inl 1, .inr (.inl 24)]) i_70_25 k_70_59 rfl rfl rfl g_24 (Nat.le_of_ble_eq_true rfl) m_65 rfl ?_
          refine x_iload_n i_65_0 rfl rfl ?_
          refine x_if (C := a3 < 0) i_65_1 rfl Iff.rfl rfl ⟨fun c5 => ?_, fun c5 => ?_⟩
          · replace h := h.1 c5
            refine x_iconst i_65_12 (by decide) rfl ?_
            refine x_goto i_65_13 rfl ?_
            refine x_iretz i_65_17 r_65 (by unfold pm_bit; decide) ?_
            refine x_bki rfl ?_
            refine x_ifF i_70_28 rfl (by unfold pm_cmp; decide) rfl ?_
            refine x_iconst i_70_31 (by decide) rfl ?_
            refine x_goto i_70_32 rfl ?_
            refine x_callv (as := [.inl 1, .inl 1]) (rest := []) i_70_36 k_70_51 rfl rfl rfl g_24 (Nat.le_of_ble_eq_true rfl) m_64 rfl ?_
            refine x_iload_n i_64_0 rfl rfl ?_
            refine x_ifF i_64_1 rfl (by unfold pm_cmp; decide) rfl ?_
            refine x_aload_n i_64_4 rfl rfl ?_
            refine x_iload_n i_64_5 rfl rfl ?_
            refine x_puti i_64_6 f_64_7 g_24 rfl rfl ?_
            refine x_iload_n i_64_9 rfl rfl ?_
            refine x_iretz i_64_10 r_64 (by unfold pm_bit; decide) ?_
            refine x_bki rfl ?_
            refine x_ifT i_70_39 rfl (by unfold pm_cmp; decide) ?_
            refine x_iconst i_70_65 (by decide) rfl ?_
            exact x_ireti i_70_66 r_70 h
          · replace h := h.2 c5
            refine x_iload_n i_65_4 rfl rfl ?_
            refine x_aload_n i_65_5 rfl rfl ?_
            refine x_geti (v := M 24 1) i_65_6 f_65_13 g_24 rfl (pm_get_j (by decide) rfl) rfl ?_
            refine x_icmp (C := a3 < M 24 1) i_65_9 rfl Iff.rfl rfl ⟨fun c6 => ?_, fun c6 => ?_⟩
            · replace h := h.1 c6
              refine x_iconst i_65_16 (by decide) rfl ?_
              refine x_iretz i_65_17 r_65 (by unfold pm_bit; decide) ?_
              refine x_bki rfl ?_
              refine x_ifT i_70_28 rfl (by unfold pm_cmp; decide) ?_
              refine x_iconst i_70_35 (by decide) rfl ?_
              refine x_callv (as := [.inl 1, .inl 0]) (rest := []) i_70_36 k_70_51 rfl rfl rfl g_24 (Nat.le_of_ble_eq_true rfl) m_64 rfl ?_
              refine x_iload_n i_64_0 rfl rfl ?_
              refine x_ifT i_64_1 rfl (by unfold pm_cmp; decide) ?_
              refine x_iload_n i_64_9 rfl rfl ?_
              refine x_iretz i_64_10 r_64 (by unfold pm_bit; decide) ?_
              refine x_bki rfl ?_
              refine x_ifF i_70_39 rfl (by unfold pm_cmp; decide) rfl ?_
              refine x_aload_n i_70_42 rfl rfl ?_
              refine x_iconst i_70_43 (by decide) rfl ?_
              refine x_aload_n i_70_44 rfl rfl ?_
              refine x_geti (v := M 24 1) i_70_45 f_70_13 g_24 rfl (pm_get_j (by decide) rfl) rfl ?_
              refine x_sipush i_70_48 (by decide) rfl ?_
              refine x_icmp (C := ¬ M 24 1 = 2000) i_70_51 rfl Iff.rfl rfl ⟨fun c7 => ?_, fun c7 => ?_⟩
              · replace h := h.1 c7
                refine x_iconst i_70_58 (by decide) rfl ?_
                refine x_callv (as := [.inl 2, .inl 0]) (rest := []) i_70_59 k_70_51 rfl rfl rfl g_24 (Nat.le_of_ble_eq_true rfl) m_64 rfl ?_
                refine x_iload_n i_64_0 rfl rfl ?_
                refine x_ifT i_64_1 rfl (by unfold pm_cmp; decide) ?_
                refine x_iload_n i_64_9 rfl rfl ?_
                refine x_iretz i_64_10 r_64 (by unfold pm_bit; decide) ?_
                refine x_bki rfl ?_
                refine x_ifT i_70_62 rfl (by unfold pm_cmp; decide) ?_
                refine x_aload_n i_70_67 rfl rfl ?_
                refine x_bipush i_70_68 (by decide) rfl ?_
                refine x_iload_n i_70_70 rfl rfl ?_
                refine x_iload_n i_70_71 rfl rfl ?_
                refine x_iload_n i_70_72 rfl rfl ?_
                refine x_callv (as := [.inl 6, .inl a1, .inl a2, .inl a3]) (rest := []) i_70_73 k_70_55 rfl rfl rfl g_24 (Nat.le_of_ble_eq_true rfl) m_66 rfl ?_
                refine x_aload_n i_66_0 rfl rfl ?_
                refine x_getr i_66_1 f_66_22 g_24 rfl rfl ?_
                refine x_aload_n i_66_4 rfl rfl ?_
                refine x_geti (v := M 24 1) i_66_5 f_66_13 g_24 rfl (pm_get_j (by decide) rfl) rfl ?_
                refine x_iload_n i_66_8 rfl rfl ?_
                obtain ⟨q8, h⟩ := h
                refine x_iastore i_66_9 g_25 rfl q8 ?_
                refine x_aload_n i_66_10 rfl rfl ?_
                refine x_getr i_66_11 f_66_26 g_24 rfl rfl ?_
                refine x_aload_n i_66_14 rfl rfl ?_
                refine x_geti (v := M 24 1) i_66_15 f_66_13 g_24 rfl (pm_get_c (by decide) (pm_get_j (by decide) rfl)) rfl ?_
                refine x_iload_n i_66_18 rfl rfl ?_
                refine x_iastore i_66_19 g_26 rfl q8 ?_
                refine x_aload_n i_66_20 rfl rfl ?_
                refine x_getr i_66_21 f_66_29 g_24 rfl rfl ?_
                refine x_aload_n i_66_24 rfl rfl ?_
                refine x_geti (v := M 24 1) i_66_25 f_66_13 g_24 rfl (pm_get_c (by decide) (pm_get_c (by decide) (pm_get_j (by decide) rfl))) rfl ?_
                refine x_iload_n i_66_28 rfl rfl ?_
                refine x_iastore i_66_29 g_27 rfl q8 ?_
                refine x_aload_n i_66_30 rfl rfl ?_
                refine x_getr i_66_31 f_66_32 g_24 rfl rfl ?_
                refine x_aload_n i_66_34 rfl rfl ?_
                refine x_geti (v := M 24 1) i_66_35 f_66_13 g_24 rfl (pm_get_c (by decide) (pm_get_c (by decide) (pm_get_c (by decide) (pm_get_j (by decide) rfl)))) rfl ?_
                refine x_iload i_66_38 rfl rfl ?_
                refine x_iastore i_66_40 g_28 rfl q8 ?_
                refine x_aload_n i_66_41 rfl rfl ?_
                refine x_dup i_66_42 rfl rfl ?_
                refine x_geti (v := M 24 1) i_66_43 f_66_13 g_24 rfl (pm_get_c (by decide) (pm_get_c (by decide) (pm_get_c (by decide) (pm_get_c (by decide) (pm_get_j (by decide) rfl))))) rfl ?_
                refine x_dup_x1 i_66_46 rfl rfl rfl ?_
                refine x_iconst i_66_47 (by decide) rfl ?_
                obtain ⟨q9, h⟩ := h
                refine x_iadd i_66_48 rfl q9 ?_
                refine x_puti i_66_49 f_66_13 g_24 rfl rfl ?_
                refine x_ireti i_66_52 r_66 ?_
                refine x_bki rfl ?_
                exact x_ireti i_70_76 r_70 h
              · replace h := h.2 c7
                refine x_iconst i_70_54 (by decide) rfl ?_
                refine x_goto i_70_55 rfl ?_
                refine x_callv (as := [.inl 2, .inl 1]) (rest := []) i_70_59 k_70_51 rfl rfl rfl g_24 (Nat.le_of_ble_eq_true rfl) m_64 rfl ?_
                refine x_iload_n i_64_0 rfl rfl ?_
                refine x_ifF i_64_1 rfl (by unfold pm_cmp; decide) rfl ?_
                refine x_aload_n i_64_4 rfl rfl ?_
                refine x_iload_n i_64_5 rfl rfl ?_
                refine x_puti i_64_6 f_64_7 g_24 rfl rfl ?_
                refine x_iload_n i_64_9 rfl rfl ?_
                refine x_iretz i_64_10 r_64 (by unfold pm_bit; decide) ?_
                refine x_bki rfl ?_
                refine x_ifF i_70_62 rfl (by unfold pm_cmp; decide) rfl ?_
                refine x_iconst i_70_65 (by decide) rfl ?_
                exact x_ireti i_70_66 r_70 h
            · replace h := h.2 c6
              refine x_iconst i_65_12 (by decide) rfl ?_
              refine x_goto i_65_13 rfl ?_
              refine x_iretz i_65_17 r_65 (by unfold pm_bit; decide) ?_
              refine x_bki rfl ?_
              refine x_ifF i_70_28 rfl (by unfold pm_cmp; decide) rfl ?_
              refine x_iconst i_70_31 (by decide) rfl ?_
              refine x_goto i_70_32 rfl ?_
              refine x_callv (as := [.inl 1, .inl 1]) (rest := []) i_70_36 k_70_51 rfl rfl rfl g_24 (Nat.le_of_ble_eq_true rfl) m_64 rfl ?_
              refine x_iload_n i_64_0 rfl rfl ?_
              refine x_ifF i_64_1 rfl (by unfold pm_cmp; decide) rfl ?_
              refine x_aload_n i_64_4 rfl rfl ?_
              refine x_iload_n i_64_5 rfl rfl ?_
              refine x_puti i_64_6 f_64_7 g_24 rfl rfl ?_
              refine x_iload_n i_64_9 rfl rfl ?_
              refine x_iretz i_64_10 r_64 (by unfold pm_bit; decide) ?_
              refine x_bki rfl ?_
              refine x_ifT i_70_39 rfl (by unfold pm_cmp; decide) ?_
              refine x_iconst i_70_65 (by decide) rfl ?_
              exact x_ireti i_70_66 r_70 h
        · replace h := h.2 c4
          refine x_iconst i_65_12 (by decide) rfl ?_
          refine x_goto i_65_13 rfl ?_
          refine x_iretz i_65_17 r_65 (by unfold pm_bit; decide) ?_
          refine x_bki rfl ?_
          refine x_ifT i_70_20 rfl (by unfold pm_cmp; decide) ?_
          refine x_iconst i_70_31 (by decide) rfl ?_
          refine x_goto i_70_32 rfl ?_
          refine x_callv (as := [.inl 1, .inl 1]) (rest := []) i_70_36 k_70_51 rfl rfl rfl g_24 (Nat.le_of_ble_eq_true rfl) m_64 rfl ?_
          refine x_iload_n i_64_0 rfl rfl ?_
          refine x_ifF i_64_1 rfl (by unfold pm_cmp; decide) rfl ?_
          refine x_aload_n i_64_4 rfl rfl ?_
          refine x_iload_n i_64_5 rfl rfl ?_
          refine x_puti i_64_6 f_64_7 g_24 rfl rfl ?_
          refine x_iload_n i_64_9 rfl rfl ?_
          refine x_iretz i_64_10 r_64 (by unfold pm_bit; decide) ?_
          refine x_bki rfl ?_
          refine x_ifT i_70_39 rfl (by unfold pm_cmp; decide) ?_
          refine x_iconst i_70_65 (by decide) rfl ?_
          exact x_ireti i_70_66 r_70 h
    · replace h := h.2 c2
      refine x_iconst i_65_12 (by decide) rfl ?_
      refine x_goto i_65_13 rfl ?_
      refine x_iretz i_65_17 r_65 (by unfold pm_bit; decide) ?_
      refine x_bki rfl ?_
      refine x_ifT i_70_12 rfl (by unfold pm_cmp; decide) ?_
      refine x_iconst i_70_31 (by decide) rfl ?_
      refine x_goto i_70_32 rfl ?_
      refine x_callv (as := [.inl 1, .inl 1]) (rest := []) i_70_36 k_70_51 rfl rfl rfl g_24 (Nat.le_of_ble_eq_true rfl) m_64 rfl ?_
      refine x_iload_n i_64_0 rfl rfl ?_
      refine x_ifF i_64_1 rfl (by unfold pm_cmp; decide) rfl ?_
      refine x_aload_n i_64_4 rfl rfl ?_
      refine x_iload_n i_64_5 rfl rfl ?_
      refine x_puti i_64_6 f_64_7 g_24 rfl rfl ?_
      refine x_iload_n i_64_9 rfl rfl ?_
      refine x_iretz i_64_10 r_64 (by unfold pm_bit; decide) ?_
      refine x_bki rfl ?_
      refine x_ifT i_70_39 rfl (by unfold pm_cmp; decide) ?_
      refine x_iconst i_70_65 (by decide) rfl ?_
      exact x_ireti i_70_66 r_70 h
/-! GateBenchModel.want at 0 -/
theorem s_71_0 {L : Nat} {M : pm_M} {Q : pm_P} {a1 : Int}
    (h : ((a1 < 0 → Q (.inl (some (.inl 0))) (pm_set (pm_set M 24 0 0) 24 0 1)) ∧ (¬ (a1 < 0) → ((a1 < M 24 1 → ((¬ M 24 3 = 20 → (pm_R (M 24 3 + 1)) ∧ (0 ≤ M 24 3 ∧ M 24 3 < 20) ∧ Q (.inl (some (.inl (M 24 3 + 1)))) (pm_set (pm_set (pm_set M 24 0 0) 24 3 (M 24 3 + 1)) 29 (M 24 3) a1)) ∧ (¬ (¬ M 24 3 = 20) → Q (.inl (some (.inl 0))) (pm_set (pm_set M 24 0 0) 24 0 2)))) ∧ (¬ (a1 < M 24 1) → Q (.inl (some (.inl 0))) (pm_set (pm_set M 24 0 0) 24 0 1)))))) :
    pm_X L (71, 0, [some (.inr (.inl 24)), some (.inl a1)], [], M) Q := by
  refine x_aload_n i_71_0 rfl rfl ?_
  refine x_iconst i_71_1 (by decide) rfl ?_
  refine x_puti i_71_2 f_71_7 g_24 rfl rfl ?_
  refine x_aload_n i_71_5 rfl rfl ?_
  refine x_iconst i_71_6 (by decide) rfl ?_
  refine x_aload_n i_71_7 rfl rfl ?_
  refine x_iload_n i_71_8 rfl rfl ?_
  refine x_callv (as := [.inl a1]) (rest := [.inl 1, .inr (.inl 24)]) i_71_9 k_71_59 rfl rfl rfl g_24 (Nat.le_of_ble_eq_true rfl) m_65 rfl ?_
  refine x_iload_n i_65_0 rfl rfl ?_
  refine x_if (C := a1 < 0) i_65_1 rfl Iff.rfl rfl ⟨fun c1 => ?_, fun c1 => ?_⟩
  · replace h := h.1 c1
    refine x_iconst i_65_12 (by decide) rfl ?_
    refine x_goto i_65_13 rfl ?_
    refine x_iretz i_65_17 r_65 (by unfold pm_bit; decide) ?_
    refine x_bki rfl ?_
    refine x_callv (as := [.inl 1, .inl 1]) (rest := []) i_71_12 k_71_51 rfl rfl rfl g_24 (Nat.le_of_ble_eq_true rfl) m_64 rfl ?_
    refine x_iload_n i_64_0 rfl rfl ?_
    refine x_ifF i_64_1 rfl (by unfold pm_cmp; decide) rfl ?_
    refine x_aload_n i_64_4 rfl rfl ?_
    refine x_iload_n i_64_5 rfl rfl ?_
    refine x_puti i_64_6 f_64_7 g_24 rfl rfl ?_
    refine x_iload_n i_64_9 rfl rfl ?_
    refine x_iretz i_64_10 r_64 (by unfold pm_bit; decide) ?_
    refine x_bki rfl ?_
    refine x_ifT i_71_15 rfl (by unfold pm_cmp; decide) ?_
    refine x_iconst i_71_40 (by decide) rfl ?_
    exact x_ireti i_71_41 r_71 h
  · replace h := h.2 c1
    refine x_iload_n i_65_4 rfl rfl ?_
    refine x_aload_n i_65_5 rfl rfl ?_
    refine x_geti (v := M 24 1) i_65_6 f_65_13 g_24 rfl (pm_get_j (by decide) rfl) rfl ?_
    refine x_icmp (C := a1 < M 24 1) i_65_9 rfl Iff.rfl rfl ⟨fun c2 => ?_, fun c2 => ?_⟩
    · replace h := h.1 c2
      refine x_iconst i_65_16 (by decide) rfl ?_
      refine x_iretz i_65_17 r_65 (by unfold pm_bit; decide) ?_
      refine x_bki rfl ?_
      refine x_callv (as := [.inl 1, .inl 0]) (rest := []) i_71_12 k_71_51 rfl rfl rfl g_24 (Nat.le_of_ble_eq_true rfl) m_64 rfl ?_
      refine x_iload_n i_64_0 rfl rfl ?_
      refine x_ifT i_64_1 rfl (by unfold pm_cmp; decide) ?_
      refine x_iload_n i_64_9 rfl rfl ?_
      refine x_iretz i_64_10 r_64 (by unfold pm_bit; decide) ?_
      refine x_bki rfl ?_
      refine x_ifF i_71_15 rfl (by unfold pm_cmp; decide) rfl ?_
      refine x_aload_n i_71_18 rfl rfl ?_
      refine x_iconst i_71_19 (by decide) rfl ?_
      refine x_aload_n i_71_20 rfl rfl ?_
      refine x_geti (v := M 24 3) i_71_21 f_71_19 g_24 rfl (pm_get_j (by decide) rfl) rfl ?_
      refine x_bipush i_71_24 (by decide) rfl ?_
      refine x_icmp (C := ¬ M 24 3 = 20) i_71_26 rfl Iff.rfl rfl ⟨fun c3 => ?_, fun c3 => ?_⟩
      · replace h := h.1 c3
        refine x_iconst i_71_33 (by decide) rfl ?_
        refine x_callv (as := [.inl 2, .inl 0]) (rest := []) i_71_34 k_71_51 rfl rfl rfl g_24 (Nat.le_of_ble_eq_true rfl) m_64 rfl ?_
        refine x_iload_n i_64_0 rfl rfl ?_
        refine x_ifT i_64_1 rfl (by unfold pm_cmp; decide) ?_
        refine x_iload_n i_64_9 rfl rfl ?_
        refine x_iretz i_64_10 r_64 (by unfold pm_bit; decide) ?_
        refine x_bki rfl ?_
        refine x_ifT i_71_37 rfl (by unfold pm_cmp; decide) ?_
        refine x_aload_n i_71_42 rfl rfl ?_
        refine x_getr i_71_43 f_71_35 g_24 rfl rfl ?_
        refine x_aload_n i_71_46 rfl rfl ?_
        refine x_dup i_71_47 rfl rfl ?_
        refine x_geti (v := M 24 3) i_71_48 f_71_19 g_24 rfl (pm_get_j (by decide) rfl) rfl ?_
        refine x_dup_x1 i_71_51 rfl rfl rfl ?_
        refine x_iconst i_71_52 (by decide) rfl ?_
        obtain ⟨q4, h⟩ := h
        refine x_iadd i_71_53 rfl q4 ?_
        refine x_puti i_71_54 f_71_19 g_24 rfl rfl ?_
        refine x_iload_n i_71_57 rfl rfl ?_
        obtain ⟨q5, h⟩ := h
        refine x_iastore i_71_58 g_29 rfl q5 ?_
        refine x_aload_n i_71_59 rfl rfl ?_
        refine x_geti (v := M 24 3 + 1) i_71_60 f_71_19 g_24 rfl (pm_get_c (by decide) (pm_get_e)) rfl ?_
        exact x_ireti i_71_63 r_71 h
      · replace h := h.2 c3
        refine x_iconst i_71_29 (by decide) rfl ?_
        refine x_goto i_71_30 rfl ?_
        refine x_callv (as := [.inl 2, .inl 1]) (rest := []) i_71_34 k_71_51 rfl rfl rfl g_24 (Nat.le_of_ble_eq_true rfl) m_64 rfl ?_
        refine x_iload_n i_64_0 rfl rfl ?_
        refine x_ifF i_64_1 rfl (by unfold pm_cmp; decide) rfl ?_
        refine x_aload_n i_64_4 rfl rfl ?_
        refine x_iload_n i_64_5 rfl rfl ?_
        refine x_puti i_64_6 f_64_7 g_24 rfl rfl ?_
        refine x_iload_n i_64_9 rfl rfl ?_
        refine x_iretz i_64_10 r_64 (by unfold pm_bit; decide) ?_
        refine x_bki rfl ?_
        refine x_ifF i_71_37 rfl (by unfold pm_cmp; decide) rfl ?_
        refine x_iconst i_71_40 (by decide) rfl ?_
        exact x_ireti i_71_41 r_71 h
    · replace h := h.2 c2
      refine x_iconst i_65_12 (by decide) rfl ?_
      refine x_goto i_65_13 rfl ?_
      refine x_iretz i_65_17 r_65 (by unfold pm_bit; decide) ?_
      refine x_bki rfl ?_
      refine x_callv (as := [.inl 1, .inl 1]) (rest := []) i_71_12 k_71_51 rfl rfl rfl g_24 (Nat.le_of_ble_eq_true rfl) m_64 rfl ?_
      refine x_iload_n i_64_0 rfl rfl ?_
      refine x_ifF i_64_1 rfl (by unfold pm_cmp; decide) rfl ?_
      refine x_aload_n i_64_4 rfl rfl ?_
      refine x_iload_n i_64_5 rfl rfl ?_
      refine x_puti i_64_6 f_64_7 g_24 rfl rfl ?_
      refine x_iload_n i_64_9 rfl rfl ?_
      refine x_iretz i_64_10 r_64 (by unfold pm_bit; decide) ?_
      refine x_bki rfl ?_
      refine x_ifT i_71_15 rfl (by unfold pm_cmp; decide) ?_
      refine x_iconst i_71_40 (by decide) rfl ?_
      exact x_ireti i_71_41 r_71 h
/-! GateBenchModel.clear at 0 -/
theorem s_72_0 {L : Nat} {M : pm_M} {Q : pm_P}
    (h : Q (.inl (some (.inl (M 24 3)))) (pm_set (pm_set M 24 0 0) 24 3 0)) :
    pm_X L (72, 0, [some (.inr (.inl 24)), none], [], M) Q := by
  refine x_aload_n i_72_0 rfl rfl ?_
  refine x_iconst i_72_1 (by decide) rfl ?_
  refine x_puti i_72_2 f_72_7 g_24 rfl rfl ?_
  refine x_aload_n i_72_5 rfl rfl ?_
  refine x_geti (v := M 24 3) i_72_6 f_72_19 g_24 rfl (pm_get_j (by decide) rfl) rfl ?_
  refine x_istore_n i_72_9 (Nat.le_of_ble_eq_true rfl) rfl rfl ?_
  refine x_aload_n i_72_10 rfl rfl ?_
  refine x_iconst i_72_11 (by decide) rfl ?_
  refine x_puti i_72_12 f_72_19 g_24 rfl rfl ?_
  refine x_iload_n i_72_15 rfl rfl ?_
  exact x_ireti i_72_16 r_72 h
/-! GateBenchModel.workOut at 0 -/
theorem s_73_0 {L : Nat} {M : pm_M} {Q : pm_P}
    (h : pm_X L (73, 2, [some (.inr (.inl 24)), some (.inl 0)], [], M) Q) :
    pm_X L (73, 0, [some (.inr (.inl 24)), none], [], M) Q := by
  refine x_iconst i_73_0 (by decide) rfl ?_
  refine x_istore_n i_73_1 (Nat.le_of_ble_eq_true rfl) rfl rfl ?_
  exact h
/-! GateBenchModel.workOut at 2 -/
theorem s_73_2 {L : Nat} {M : pm_M} {Q : pm_P} {a1 : Int}
    (h : ((M 24 1 ≤ a1 → Q (.inl none) M) ∧ (¬ (M 24 1 ≤ a1) → (0 ≤ a1 ∧ a1 < 2000) ∧ ((M 25 a1 = 0 → (pm_R (a1 + 1)) ∧ pm_X L (73, 2, [some (.inr (.inl 24)), some (.inl (a1 + 1))], [], pm_set M 32 a1 0) Q) ∧ (M 25 a1 = 1 → (0 ≤ M 26 a1 ∧ M 26 a1 < 12) ∧ ((0 ≤ a1 ∧ a1 < 2000) ∧ pm_bit (M 30 (M 26 a1))) ∧ (pm_R (a1 + 1)) ∧ pm_X L (73, 2, [some (.inr (.inl 24)), some (.inl (a1 + 1))], [], pm_set M 32 a1 (M 30 (M 26 a1))) Q) ∧ (M 25 a1 = 2 → (0 ≤ M 26 a1 ∧ M 26 a1 < 2000) ∧ ((¬ M 32 (M 26 a1) = 0 → (pm_R (a1 + 1)) ∧ pm_X L (73, 2, [some (.inr (.inl 24)), some (.inl (a1 + 1))], [], pm_set M 32 a1 0) Q) ∧ (¬ (¬ M 32 (M 26 a1) = 0) → (pm_R (a1 + 1)) ∧ pm_X L (73, 2, [some (.inr (.inl 24)), some (.inl (a1 + 1))], [], pm_set M 32 a1 1) Q))) ∧ (M 25 a1 = 3 → (0 ≤ M 26 a1 ∧ M 26 a1 < 2000) ∧ ((M 32 (M 26 a1) = 0 → (pm_R (a1 + 1)) ∧ pm_X L (73, 2, [some (.inr (.inl 24)), some (.inl (a1 + 1))], [], pm_set M 32 a1 0) Q) ∧ (¬ (M 32 (M 26 a1) = 0) → (0 ≤ M 27 a1 ∧ M 27 a1 < 2000) ∧ ((M 32 (M 27 a1) = 0 → (pm_R (a1 + 1)) ∧ pm_X L (73, 2, [some (.inr (.inl 24)), some (.inl (a1 + 1))], [], pm_set M 32 a1 0) Q) ∧ (¬ (M 32 (M 27 a1) = 0) → (pm_R (a1 + 1)) ∧ pm_X L (73, 2, [some (.inr (.inl 24)), some (.inl (a1 + 1))], [], pm_set M 32 a1 1) Q))))) ∧ (M 25 a1 = 4 → (0 ≤ M 26 a1 ∧ M 26 a1 < 2000) ∧ ((¬ M 32 (M 26 a1) = 0 → (pm_R (a1 + 1)) ∧ pm_X L (73, 2, [some (.inr (.inl 24)), some (.inl (a1 + 1))], [], pm_set M 32 a1 1) Q) ∧ (¬ (¬ M 32 (M 26 a1) = 0) → (0 ≤ M 27 a1 ∧ M 27 a1 < 2000) ∧ ((M 32 (M 27 a1) = 0 → (pm_R (a1 + 1)) ∧ pm_X L (73, 2, [some (.inr (.inl 24)), some (.inl (a1 + 1))], [], pm_set M 32 a1 0) Q) ∧ (¬ (M 32 (M 27 a1) = 0) → (pm_R (a1 + 1)) ∧ pm_X L (73, 2, [some (.inr (.inl 24)), some (.inl (a1 + 1))], [], pm_set M 32 a1 1) Q))))) ∧ (M 25 a1 = 5 → (0 ≤ M 26 a1 ∧ M 26 a1 < 2000) ∧ (0 ≤ M 27 a1 ∧ M 27 a1 < 2000) ∧ ((M 32 (M 26 a1) = M 32 (M 27 a1) → (pm_R (a1 + 1)) ∧ pm_X L (73, 2, [some (.inr (.inl 24)), some (.inl (a1 + 1))], [], pm_set M 32 a1 0) Q) ∧ (¬ (M 32 (M 26 a1) = M 32 (M 27 a1)) → (pm_R (a1 + 1)) ∧ pm_X L (73, 2, [some (.inr (.inl 24)), some (.inl (a1 + 1))], [], pm_set M 32 a1 1) Q))) ∧ ((M 25 a1 < 0 ∨ 5 < M 25 a1) → (0 ≤ M 26 a1 ∧ M 26 a1 < 2000) ∧ ((M 32 (M 26 a1) = 0 → (0 ≤ M 28 a1 ∧ M 28 a1 < 2000) ∧ ((0 ≤ a1 ∧ a1 < 2000) ∧ pm_bit (M 32 (M 28 a1))) ∧ (pm_R (a1 + 1)) ∧ pm_X L (73, 2, [some (.inr (.inl 24)), some (.inl (a1 + 1))], [], pm_set M 32 a1 (M 32 (M 28 a1))) Q) ∧ (¬ (M 32 (M 26 a1) = 0) → (0 ≤ M 27 a1 ∧ M 27 a1 < 2000) ∧ ((0 ≤ a1 ∧ a1 < 2000) ∧ pm_bit (M 32 (M 27 a1))) ∧ (pm_R (a1 + 1)) ∧ pm_X L (73, 2, [some (.inr (.inl 24)), some (.inl (a1 + 1))], [], pm_set M 32 a1 (M 32 (M 27 a1))) Q))))))) :
    pm_X L (73, 2, [some (.inr (.inl 24)), some (.inl a1)], [], M) Q := by
  refine x_iload_n i_73_2 rfl rfl ?_
  refine x_aload_n i_73_3 rfl rfl ?_
  refine x_geti (v := M 24 1) i_73_4 f_73_13 g_24 rfl (rfl) rfl ?_
  refine x_icmp (C := M 24 1 ≤ a1) i_73_7 rfl Iff.rfl rfl ⟨fun c1 => ?_, fun c1 => ?_⟩
  · replace h := h.1 c1
    exact x_ret i_73_288 r_73 h
  · replace h := h.2 c1
    refine x_aload_n i_73_10 rfl rfl ?_
    refine x_getr i_73_11 f_73_22 g_24 rfl rfl ?_
    refine x_iload_n i_73_14 rfl rfl ?_
    obtain ⟨q2, h⟩ := h
    refine x_iaload (v := M 25 a1) i_73_15 g_25 (rfl) rfl q2 ?_
    rcases (by omega : M 25 a1 = 0 ∨ M 25 a1 = 1 ∨ M 25 a1 = 2 ∨ M 25 a1 = 3 ∨ M 25 a1 = 4 ∨ M 25 a1 = 5 ∨ (M 25 a1 < 0 ∨ 5 < M 25 a1)) with c3 | c3 | c3 | c3 | c3 | c3 | c3
    · replace h := h.1 c3
      refine x_swV i_73_16 c3 (by decide) rfl rfl ?_
      refine x_aload_n i_73_56 rfl rfl ?_
      refine x_getr i_73_57 f_73_45 g_24 rfl rfl ?_
      refine x_iload_n i_73_60 rfl rfl ?_
      refine x_iconst i_73_61 (by decide) rfl ?_
      refine x_bastore i_73_62 g_32 rfl ⟨q2, by unfold pm_bit; decide⟩ ?_
      refine x_goto i_73_63 rfl ?_
      obtain ⟨q4, h⟩ := h
      refine x_iinc i_73_282 rfl (by decide) rfl rfl q4 ?_
      refine x_goto i_73_285 rfl ?_
      exact h
    · replace h := h.2.1 c3
      refine x_swV i_73_16 c3 (by decide) rfl rfl ?_
      refine x_aload_n i_73_66 rfl rfl ?_
      refine x_getr i_73_67 f_73_45 g_24 rfl rfl ?_
      refine x_iload_n i_73_70 rfl rfl ?_
      refine x_aload_n i_73_71 rfl rfl ?_
      refine x_getr i_73_72 f_73_38 g_24 rfl rfl ?_
      refine x_aload_n i_73_75 rfl rfl ?_
      refine x_getr i_73_76 f_73_26 g_24 rfl rfl ?_
      refine x_iload_n i_73_79 rfl rfl ?_
      refine x_iaload (v := M 26 a1) i_73_80 g_26 (rfl) rfl q2 ?_
      obtain ⟨q5, h⟩ := h
      refine x_baload (v := M 30 (M 26 a1)) i_73_81 g_30 (rfl) rfl q5 ?_
      obtain ⟨q6, h⟩ := h
      refine x_bastore i_73_82 g_32 rfl q6 ?_
      refine x_goto i_73_83 rfl ?_
      obtain ⟨q7, h⟩ := h
      refine x_iinc i_73_282 rfl (by decide) rfl rfl q7 ?_
      refine x_goto i_73_285 rfl ?_
      exact h
    · replace h := h.2.2.1 c3
      refine x_swV i_73_16 c3 (by decide) rfl rfl ?_
      refine x_aload_n i_73_86 rfl rfl ?_
      refine x_getr i_73_87 f_73_45 g_24 rfl rfl ?_
      refine x_iload_n i_73_90 rfl rfl ?_
      refine x_aload_n i_73_91 rfl rfl ?_
      refine x_getr i_73_92 f_73_45 g_24 rfl rfl ?_
      refine x_aload_n i_73_95 rfl rfl ?_
      refine x_getr i_73_96 f_73_26 g_24 rfl rfl ?_
      refine x_iload_n i_73_99 rfl rfl ?_
      refine x_iaload (v := M 26 a1) i_73_100 g_26 (rfl) rfl q2 ?_
      obtain ⟨q8, h⟩ := h
      refine x_baload (v := M 32 (M 26 a1)) i_73_101 g_32 (rfl) rfl q8 ?_
      refine x_if (C := ¬ M 32 (M 26 a1) = 0) i_73_102 rfl Iff.rfl rfl ⟨fun c9 => ?_, fun c9 => ?_⟩
      · replace h := h.1 c9
        refine x_iconst i_73_109 (by decide) rfl ?_
        refine x_bastore i_73_110 g_32 rfl ⟨q2, by unfold pm_bit; decide⟩ ?_
        refine x_goto i_73_111 rfl ?_
        obtain ⟨q10, h⟩ := h
        refine x_iinc i_73_282 rfl (by decide) rfl rfl q10 ?_
        refine x_goto i_73_285 rfl ?_
        exact h
      · replace h := h.2 c9
        refine x_iconst i_73_105 (by decide) rfl ?_
        refine x_goto i_73_106 rfl ?_
        refine x_bastore i_73_110 g_32 rfl ⟨q2, by unfold pm_bit; decide⟩ ?_
        refine x_goto i_73_111 rfl ?_
        obtain ⟨q11, h⟩ := h
        refine x_iinc i_73_282 rfl (by decide) rfl rfl q11 ?_
        refine x_goto i_73_285 rfl ?_
        exact h
    · replace h := h.2.2.2.1 c3
      refine x_swV i_73_16 c3 (by decide) rfl rfl ?_
      refine x_aload_n i_73_114 rfl rfl ?_
      refine x_getr i_73_115 f_73_45 g_24 rfl rfl ?_
      refine x_iload_n i_73_118 rfl rfl ?_
      refine x_aload_n i_73_119 rfl rfl ?_
      refine x_getr i_73_120 f_73_45 g_24 rfl rfl ?_
      refine x_aload_n i_73_123 rfl rfl ?_
      refine x_getr i_73_124 f_73_26 g_24 rfl rfl ?_
      refine x_iload_n i_73_127 rfl rfl ?_
      refine x_iaload (v := M 26 a1) i_73_128 g_26 (rfl) rfl q2 ?_
      obtain ⟨q12, h⟩ := h
      refine x_baload (v := M 32 (M 26 a1)) i_73_129 g_32 (rfl) rfl q12 ?_
      refine x_if (C := M 32 (M 26 a1) = 0) i_73_130 rfl Iff.rfl rfl ⟨fun c13 => ?_, fun c13 => ?_⟩
      · replace h := h.1 c13
        refine x_iconst i_73_151 (by decide) rfl ?_
        refine x_bastore i_73_152 g_32 rfl ⟨q2, by unfold pm_bit; decide⟩ ?_
        refine x_goto i_73_153 rfl ?_
        obtain ⟨q14, h⟩ := h
        refine x_iinc i_73_282 rfl (by decide) rfl rfl q14 ?_
        refine x_goto i_73_285 rfl ?_
        exact h
      · replace h := h.2 c13
        refine x_aload_n i_73_133 rfl rfl ?_
        refine x_getr i_73_134 f_73_45 g_24 rfl rfl ?_
        refine x_aload_n i_73_137 rfl rfl ?_
        refine x_getr i_73_138 f_73_29 g_24 rfl rfl ?_
        refine x_iload_n i_73_141 rfl rfl ?_
        refine x_iaload (v := M 27 a1) i_73_142 g_27 (rfl) rfl q2 ?_
        obtain ⟨q15, h⟩ := h
        refine x_baload (v := M 32 (M 27 a1)) i_73_143 g_32 (rfl) rfl q15 ?_
        refine x_if (C := M 32 (M 27 a1) = 0) i_73_144 rfl Iff.rfl rfl ⟨fun c16 => ?_, fun c16 => ?_⟩
        · replace h := h.1 c16
          refine x_iconst i_73_151 (by decide) rfl ?_
          refine x_bastore i_73_152 g_32 rfl ⟨q2, by unfold pm_bit; decide⟩ ?_
          refine x_goto i_73_153 rfl ?_
          obtain ⟨q17, h⟩ := h
          refine x_iinc i_73_282 rfl (by decide) rfl rfl q17 ?_
          refine x_goto i_73_285 rfl ?_
          exact h
        · replace h := h.2 c16
          refine x_iconst i_73_147 (by decide) rfl ?_
          refine x_goto i_73_148 rfl ?_
          refine x_bastore i_73_152 g_32 rfl ⟨q2, by unfold pm_bit; decide⟩ ?_
          refine x_goto i_73_153 rfl ?_
          obtain ⟨q18, h⟩ := h
          refine x_iinc i_73_282 rfl (by decide) rfl rfl q18 ?_
          refine x_goto i_73_285 rfl ?_
          exact h
    · replace h := h.2.2.2.2.1 c3
      refine x_swV i_73_16 c3 (by decide) rfl rfl ?_
      refine x_aload_n i_73_156 rfl rfl ?_
      refine x_getr i_73_157 f_73_45 g_24 rfl rfl ?_
      refine x_iload_n i_73_160 rfl rfl ?_
      refine x_aload_n i_73_161 rfl rfl ?_
      refine x_getr i_73_162 f_73_45 g_24 rfl rfl ?_
      refine x_aload_n i_73_165 rfl rfl ?_
      refine x_getr i_73_166 f_73_26 g_24 rfl rfl ?_
      refine x_iload_n i_73_169 rfl rfl ?_
      refine x_iaload (v := M 26 a1) i_73_170 g_26 (rfl) rfl q2 ?_
      obtain ⟨q19, h⟩ := h
      refine x_baload (v := M 32 (M 26 a1)) i_73_171 g_32 (rfl) rfl q19 ?_
      refine x_if (C := ¬ M 32 (M 26 a1) = 0) i_73_172 rfl Iff.rfl rfl ⟨fun c20 => ?_, fun c20 => ?_⟩
      · replace h := h.1 c20
        refine x_iconst i_73_189 (by decide) rfl ?_
        refine x_goto i_73_190 rfl ?_
        refine x_bastore i_73_194 g_32 rfl ⟨q2, by unfold pm_bit; decide⟩ ?_
        refine x_goto i_73_195 rfl ?_
        obtain ⟨q21, h⟩ := h
        refine x_iinc i_73_282 rfl (by decide) rfl rfl q21 ?_
        refine x_goto i_73_285 rfl ?_
        exact h
      · replace h := h.2 c20
        refine x_aload_n i_73_175 rfl rfl ?_
        refine x_getr i_73_176 f_73_45 g_24 rfl rfl ?_
        refine x_aload_n i_73_179 rfl rfl ?_
        refine x_getr i_73_180 f_73_29 g_24 rfl rfl ?_
        refine x_iload_n i_73_183 rfl rfl ?_
        refine x_iaload (v := M 27 a1) i_73_184 g_27 (rfl) rfl q2 ?_
        obtain ⟨q22, h⟩ := h
        refine x_baload (v := M 32 (M 27 a1)) i_73_185 g_32 (rfl) rfl q22 ?_
        refine x_if (C := M 32 (M 27 a1) = 0) i_73_186 rfl Iff.rfl rfl ⟨fun c23 => ?_, fun c23 => ?_⟩
        · replace h := h.1 c23
          refine x_iconst i_73_193 (by decide) rfl ?_
          refine x_bastore i_73_194 g_32 rfl ⟨q2, by unfold pm_bit; decide⟩ ?_
          refine x_goto i_73_195 rfl ?_
          obtain ⟨q24, h⟩ := h
          refine x_iinc i_73_282 rfl (by decide) rfl rfl q24 ?_
          refine x_goto i_73_285 rfl ?_
          exact h
        · replace h := h.2 c23
          refine x_iconst i_73_189 (by decide) rfl ?_
          refine x_goto i_73_190 rfl ?_
          refine x_bastore i_73_194 g_32 rfl ⟨q2, by unfold pm_bit; decide⟩ ?_
          refine x_goto i_73_195 rfl ?_
          obtain ⟨q25, h⟩ := h
          refine x_iinc i_73_282 rfl (by decide) rfl rfl q25 ?_
          refine x_goto i_73_285 rfl ?_
          exact h
    · replace h := h.2.2.2.2.2.1 c3
      refine x_swV i_73_16 c3 (by decide) rfl rfl ?_
      refine x_aload_n i_73_198 rfl rfl ?_
      refine x_getr i_73_199 f_73_45 g_24 rfl rfl ?_
      refine x_iload_n i_73_202 rfl rfl ?_
      refine x_aload_n i_73_203 rfl rfl ?_
      refine x_getr i_73_204 f_73_45 g_24 rfl rfl ?_
      refine x_aload_n i_73_207 rfl rfl ?_
      refine x_getr i_73_208 f_73_26 g_24 rfl rfl ?_
      refine x_iload_n i_73_211 rfl rfl ?_
      refine x_iaload (v := M 26 a1) i_73_212 g_26 (rfl) rfl q2 ?_
      obtain ⟨q26, h⟩ := h
      refine x_baload (v := M 32 (M 26 a1)) i_73_213 g_32 (rfl) rfl q26 ?_
      refine x_aload_n i_73_214 rfl rfl ?_
      refine x_getr i_73_215 f_73_45 g_24 rfl rfl ?_
      refine x_aload_n i_73_218 rfl rfl ?_
      refine x_getr i_73_219 f_73_29 g_24 rfl rfl ?_
      refine x_iload_n i_73_222 rfl rfl ?_
      refine x_iaload (v := M 27 a1) i_73_223 g_27 (rfl) rfl q2 ?_
      obtain ⟨q27, h⟩ := h
      refine x_baload (v := M 32 (M 27 a1)) i_73_224 g_32 (rfl) rfl q27 ?_
      refine x_icmp (C := M 32 (M 26 a1) = M 32 (M 27 a1)) i_73_225 rfl Iff.rfl rfl ⟨fun c28 => ?_, fun c28 => ?_⟩
      · replace h := h.1 c28
        refine x_iconst i_73_232 (by decide) rfl ?_
        refine x_bastore i_73_233 g_32 rfl ⟨q2, by unfold pm_bit; decide⟩ ?_
        refine x_goto i_73_234 rfl ?_
        obtain ⟨q29, h⟩ := h
        refine x_iinc i_73_282 rfl (by decide) rfl rfl q29 ?_
        refine x_goto i_73_285 rfl ?_
        exact h
      · replace h := h.2 c28
        refine x_iconst i_73_228 (by decide) rfl ?_
        refine x_goto i_73_229 rfl ?_
        refine x_bastore i_73_233 g_32 rfl ⟨q2, by unfold pm_bit; decide⟩ ?_
        refine x_goto i_73_234 rfl ?_
        obtain ⟨q30, h⟩ := h
        refine x_iinc i_73_282 rfl (by decide) rfl rfl q30 ?_
        refine x_goto i_73_285 rfl ?_
        exact h
    · replace h := h.2.2.2.2.2.2 c3
      refine x_swO i_73_16 rfl c3 ?_
      refine x_aload_n i_73_237 rfl rfl ?_
      refine x_getr i_73_238 f_73_45 g_24 rfl rfl ?_
      refine x_iload_n i_73_241 rfl rfl ?_
      refine x_aload_n i_73_242 rfl rfl ?_
      refine x_getr i_73_243 f_73_45 g_24 rfl rfl ?_
      refine x_aload_n i_73_246 rfl rfl ?_
      refine x_getr i_73_247 f_73_26 g_24 rfl rfl ?_
      refine x_iload_n i_73_250 rfl rfl ?_
      refine x_iaload (v := M 26 a1) i_73_251 g_26 (rfl) rfl q2 ?_
      obtain ⟨q31, h⟩ := h
      refine x_baload (v := M 32 (M 26 a1)) i_73_252 g_32 (rfl) rfl q31 ?_
      refine x_if (C := M 32 (M 26 a1) = 0) i_73_253 rfl Iff.rfl rfl ⟨fun c32 => ?_, fun c32 => ?_⟩
      · replace h := h.1 c32
        refine x_aload_n i_73_270 rfl rfl ?_
        refine x_getr i_73_271 f_73_45 g_24 rfl rfl ?_
        refine x_aload_n i_73_274 rfl rfl ?_
        refine x_getr i_73_275 f_73_32 g_24 rfl rfl ?_
        refine x_iload_n i_73_278 rfl rfl ?_
        refine x_iaload (v := M 28 a1) i_73_279 g_28 (rfl) rfl q2 ?_
        obtain ⟨q33, h⟩ := h
        refine x_baload (v := M 32 (M 28 a1)) i_73_280 g_32 (rfl) rfl q33 ?_
        obtain ⟨q34, h⟩ := h
        refine x_bastore i_73_281 g_32 rfl q34 ?_
        obtain ⟨q35, h⟩ := h
        refine x_iinc i_73_282 rfl (by decide) rfl rfl q35 ?_
        refine x_goto i_73_285 rfl ?_
        exact h
      · replace h := h.2 c32
        refine x_aload_n i_73_256 rfl rfl ?_
        refine x_getr i_73_257 f_73_45 g_24 rfl rfl ?_
        refine x_aload_n i_73_260 rfl rfl ?_
        refine x_getr i_73_261 f_73_29 g_24 rfl rfl ?_
        refine x_iload_n i_73_264 rfl rfl ?_
        refine x_iaload (v := M 27 a1) i_73_265 g_27 (rfl) rfl q2 ?_
        obtain ⟨q36, h⟩ := h
        refine x_baload (v := M 32 (M 27 a1)) i_73_266 g_32 (rfl) rfl q36 ?_
        refine x_goto i_73_267 rfl ?_
        obtain ⟨q37, h⟩ := h
        refine x_bastore i_73_281 g_32 rfl q37 ?_
        obtain ⟨q38, h⟩ := h
        refine x_iinc i_73_282 rfl (by decide) rfl rfl q38 ?_
        refine x_goto i_73_285 rfl ?_
        exact h
/-! GateBenchModel.advance at 0 -/
theorem s_74_0 {L : Nat} {M : pm_M} {Q : pm_P}
    (h : (pm_R (M 24 2 - 1)) ∧ pm_X L (74, 7, [some (.inr (.inl 24)), some (.inl (M 24 2 - 1))], [], M) Q) :
    pm_X L (74, 0, [some (.inr (.inl 24)), none], [], M) Q := by
  refine x_aload_n i_74_0 rfl rfl ?_
  refine x_geti (v := M 24 2) i_74_1 f_74_16 g_24 rfl (rfl) rfl ?_
  refine x_iconst i_74_4 (by decide) rfl ?_
  obtain ⟨q1, h⟩ := h
  refine x_isub i_74_5 rfl q1 ?_
  refine x_istore_n i_74_6 (Nat.le_of_ble_eq_true rfl) rfl rfl ?_
  exact h
/-! GateBenchModel.advance at 7 -/
theorem s_74_7 {L : Nat} {M : pm_M} {Q : pm_P} {a1 : Int}
    (h : ((a1 < 0 → Q (.inl (some (.inl 0))) M) ∧ (¬ (a1 < 0) → (0 ≤ a1 ∧ a1 < 12) ∧ ((¬ M 30 a1 = 0 → (pm_R (a1 + (-1))) ∧ pm_X L (74, 7, [some (.inr (.inl 24)), some (.inl (a1 + (-1)))], [], pm_set M 30 a1 0) Q) ∧ (¬ (¬ M 30 a1 = 0) → Q (.inl (some (.inl 1))) (pm_set M 30 a1 1)))))) :
    pm_X L (74, 7, [some (.inr (.inl 24)), some (.inl a1)], [], M) Q := by
  refine x_iload_n i_74_7 rfl rfl ?_
  refine x_if (C := a1 < 0) i_74_8 rfl Iff.rfl rfl ⟨fun c1 => ?_, fun c1 => ?_⟩
  · replace h := h.1 c1
    refine x_iconst i_74_48 (by decide) rfl ?_
    exact x_iretz i_74_49 r_74 (by unfold pm_bit; decide) h
  · replace h := h.2 c1
    refine x_aload_n i_74_11 rfl rfl ?_
    refine x_getr i_74_12 f_74_38 g_24 rfl rfl ?_
    refine x_iload_n i_74_15 rfl rfl ?_
    refine x_aload_n i_74_16 rfl rfl ?_
    refine x_getr i_74_17 f_74_38 g_24 rfl rfl ?_
    refine x_iload_n i_74_20 rfl rfl ?_
    obtain ⟨q2, h⟩ := h
    refine x_baload (v := M 30 a1) i_74_21 g_30 (rfl) rfl q2 ?_
    refine x_if (C := ¬ M 30 a1 = 0) i_74_22 rfl Iff.rfl rfl ⟨fun c3 => ?_, fun c3 => ?_⟩
    · replace h := h.1 c3
      refine x_iconst i_74_29 (by decide) rfl ?_
      refine x_bastore i_74_30 g_30 rfl ⟨q2, by unfold pm_bit; decide⟩ ?_
      refine x_aload_n i_74_31 rfl rfl ?_
      refine x_getr i_74_32 f_74_38 g_24 rfl rfl ?_
      refine x_iload_n i_74_35 rfl rfl ?_
      refine x_baload (v := 0) i_74_36 g_30 (pm_get_e) rfl q2 ?_
      refine x_ifT i_74_37 rfl (by unfold pm_cmp; decide) ?_
      obtain ⟨q4, h⟩ := h
      refine x_iinc i_74_42 rfl (by decide) rfl rfl q4 ?_
      refine x_goto i_74_45 rfl ?_
      exact h
    · replace h := h.2 c3
      refine x_iconst i_74_25 (by decide) rfl ?_
      refine x_goto i_74_26 rfl ?_
      refine x_bastore i_74_30 g_30 rfl ⟨q2, by unfold pm_bit; decide⟩ ?_
      refine x_aload_n i_74_31 rfl rfl ?_
      refine x_getr i_74_32 f_74_38 g_24 rfl rfl ?_
      refine x_iload_n i_74_35 rfl rfl ?_
      refine x_baload (v := 1) i_74_36 g_30 (pm_get_e) rfl q2 ?_
      refine x_ifF i_74_37 rfl (by unfold pm_cmp; decide) rfl ?_
      refine x_iconst i_74_40 (by decide) rfl ?_
      exact x_iretz i_74_41 r_74 (by unfold pm_bit; decide) h
/-! GateBenchModel.begin at 0 -/
theorem s_75_0 {L : Nat} {M : pm_M} {Q : pm_P}
    (h : pm_X L (75, 2, [some (.inr (.inl 24)), some (.inl 0)], [], M) Q) :
    pm_X L (75, 0, [some (.inr (.inl 24)), none], [], M) Q := by
  refine x_iconst i_75_0 (by decide) rfl ?_
  refine x_istore_n i_75_1 (Nat.le_of_ble_eq_true rfl) rfl rfl ?_
  exact h
/-! GateBenchModel.begin at 2 -/
theorem s_75_2 {L : Nat} {M : pm_M} {Q : pm_P} {a1 : Int}
    (h : ((12 ≤ a1 → Q (.inl none) M) ∧ (¬ (12 ≤ a1) → (0 ≤ a1 ∧ a1 < 12) ∧ ((0 ≤ a1 ∧ a1 < 12) ∧ pm_bit (M 30 a1)) ∧ (pm_R (a1 + 1)) ∧ pm_X L (75, 2, [some (.inr (.inl 24)), some (.inl (a1 + 1))], [], pm_set (pm_set M 31 a1 (M 30 a1)) 30 a1 0) Q))) :
    pm_X L (75, 2, [some (.inr (.inl 24)), some (.inl a1)], [], M) Q := by
  refine x_iload_n i_75_2 rfl rfl ?_
  refine x_bipush i_75_3 (by decide) rfl ?_
  refine x_icmp (C := 12 ≤ a1) i_75_5 rfl Iff.rfl rfl ⟨fun c1 => ?_, fun c1 => ?_⟩
  · replace h := h.1 c1
    exact x_ret i_75_33 r_75 h
  · replace h := h.2 c1
    refine x_aload_n i_75_8 rfl rfl ?_
    refine x_getr i_75_9 f_75_42 g_24 rfl rfl ?_
    refine x_iload_n i_75_12 rfl rfl ?_
    refine x_aload_n i_75_13 rfl rfl ?_
    refine x_getr i_75_14 f_75_38 g_24 rfl rfl ?_
    refine x_iload_n i_75_17 rfl rfl ?_
    obtain ⟨q2, h⟩ := h
    refine x_baload (v := M 30 a1) i_75_18 g_30 (rfl) rfl q2 ?_
    obtain ⟨q3, h⟩ := h
    refine x_bastore i_75_19 g_31 rfl q3 ?_
    refine x_aload_n i_75_20 rfl rfl ?_
    refine x_getr i_75_21 f_75_38 g_24 rfl rfl ?_
    refine x_iload_n i_75_24 rfl rfl ?_
    refine x_iconst i_75_25 (by decide) rfl ?_
    refine x_bastore i_75_26 g_30 rfl ⟨q2, by unfold pm_bit; decide⟩ ?_
    obtain ⟨q4, h⟩ := h
    refine x_iinc i_75_27 rfl (by decide) rfl rfl q4 ?_
    refine x_goto i_75_30 rfl ?_
    exact h
/-! GateBenchModel.back at 0 -/
theorem s_76_0 {L : Nat} {M : pm_M} {Q : pm_P}
    (h : pm_X L (76, 2, [some (.inr (.inl 24)), some (.inl 0)], [], M) Q) :
    pm_X L (76, 0, [some (.inr (.inl 24)), none], [], M) Q := by
  refine x_iconst i_76_0 (by decide) rfl ?_
  refine x_istore_n i_76_1 (Nat.le_of_ble_eq_true rfl) rfl rfl ?_
  exact h
/-! GateBenchModel.back at 2 -/
theorem s_76_2 {L : Nat} {M : pm_M} {Q : pm_P} {a1 : Int}
    (h : ((12 ≤ a1 → Q (.inl none) M) ∧ (¬ (12 ≤ a1) → (0 ≤ a1 ∧ a1 < 12) ∧ ((0 ≤ a1 ∧ a1 < 12) ∧ pm_bit (M 31 a1)) ∧ (pm_R (a1 + 1)) ∧ pm_X L (76, 2, [some (.inr (.inl 24)), some (.inl (a1 + 1))], [], pm_set M 30 a1 (M 31 a1)) Q))) :
    pm_X L (76, 2, [some (.inr (.inl 24)), some (.inl a1)], [], M) Q := by
  refine x_iload_n i_76_2 rfl rfl ?_
  refine x_bipush i_76_3 (by decide) rfl ?_
  refine x_icmp (C := 12 ≤ a1) i_76_5 rfl Iff.rfl rfl ⟨fun c1 => ?_, fun c1 => ?_⟩
  · replace h := h.1 c1
    exact x_ret i_76_26 r_76 h
  · replace h := h.2 c1
    refine x_aload_n i_76_8 rfl rfl ?_
    refine x_getr i_76_9 f_76_38 g_24 rfl rfl ?_
    refine x_iload_n i_76_12 rfl rfl ?_
    refine x_aload_n i_76_13 rfl rfl ?_
    refine x_getr i_76_14 f_76_42 g_24 rfl rfl ?_
    refine x_iload_n i_76_17 rfl rfl ?_
    obtain ⟨q2, h⟩ := h
    refine x_baload (v := M 31 a1) i_76_18 g_31 (rfl) rfl q2 ?_
    obtain ⟨q3, h⟩ := h
    refine x_bastore i_76_19 g_30 rfl q3 ?_
    obtain ⟨q4, h⟩ := h
    refine x_iinc i_76_20 rfl (by decide) rfl rfl q4 ?_
    refine x_goto i_76_23 rfl ?_
    exact h
/-! GateBenchModel.some at 0 -/
theorem s_77_0 {L : Nat} {M : pm_M} {Q : pm_P} {a2 : Int} {q : Nat} (gq : (pm_cells L)[q]? = some (.inl (0, 20)))
    (h : pm_X L (75, 0, [some (.inr (.inl 24)), none], [], M) (pm_back (pm_X L) 77 1 [some (.inr (.inl 24)), some (.inr (.inl q)), some (.inl a2), none, none, none] [] Q)) :
    pm_X L (77, 0, [some (.inr (.inl 24)), some (.inr (.inl q)), some (.inl a2), none, none, none], [], M) Q := by
  refine x_aload_n i_77_0 rfl rfl ?_
  refine x_callv (as := []) (rest := []) i_77_1 k_77_63 rfl rfl rfl g_24 (Nat.le_of_ble_eq_true rfl) m_75 rfl h
/-! GateBenchModel.some at 4 -/
theorem s_77_4 {L : Nat} {M : pm_M} {Q : pm_P} {a2 : Int} {q : Nat} (gq : (pm_cells L)[q]? = some (.inl (0, 20)))
    (h : pm_X L (77, 6, [some (.inr (.inl 24)), some (.inr (.inl q)), some (.inl a2), some (.inl 1), none, none], [], M) Q) :
    pm_X L (77, 4, [some (.inr (.inl 24)), some (.inr (.inl q)), some (.inl a2), none, none, none], [], M) Q := by
  refine x_iconst i_77_4 (by decide) rfl ?_
  refine x_istore_n i_77_5 (Nat.le_of_ble_eq_true rfl) rfl rfl ?_
  exact h
/-! GateBenchModel.some at 6 -/
theorem s_77_6 {L : Nat} {M : pm_M} {Q : pm_P} {a2 a3 : Int} {o4 o5 : Option pm_V} {q : Nat} (gq : (pm_cells L)[q]? = some (.inl (0, 20)))
    (h : ((a3 = 0 → pm_X L (76, 0, [some (.inr (.inl 24)), none], [], M) (pm_back (pm_X L) 77 72 [some (.inr (.inl 24)), some (.inr (.inl q)), some (.inl a2), some (.inl a3), o4, o5] [] Q)) ∧ (¬ (a3 = 0) → pm_X L (73, 0, [some (.inr (.inl 24)), none], [], M) (pm_back (pm_X L) 77 11 [some (.inr (.inl 24)), some (.inr (.inl q)), some (.inl a2), some (.inl a3), o4, o5] [] Q)))) :
    pm_X L (77, 6, [some (.inr (.inl 24)), some (.inr (.inl q)), some (.inl a2), some (.inl a3), o4, o5], [], M) Q := by
  refine x_iload_n i_77_6 rfl rfl ?_
  refine x_if (C := a3 = 0) i_77_7 rfl Iff.rfl rfl ⟨fun c1 => ?_, fun c1 => ?_⟩
  · replace h := h.1 c1
    refine x_aload_n i_77_71 rfl rfl ?_
    refine x_callv (as := []) (rest := []) i_77_72 k_77_73 rfl rfl rfl g_24 (Nat.le_of_ble_eq_true rfl) m_76 rfl h
  · replace h := h.2 c1
    refine x_aload_n i_77_10 rfl rfl ?_
    refine x_callv (as := []) (rest := []) i_77_11 k_77_66 rfl rfl rfl g_24 (Nat.le_of_ble_eq_true rfl) m_73 rfl h
/-! GateBenchModel.some at 14 -/
theorem s_77_14 {L : Nat} {M : pm_M} {Q : pm_P} {a2 a3 : Int} {o4 o5 : Option pm_V} {q : Nat} (gq : (pm_cells L)[q]? = some (.inl (0, 20)))
    (h : pm_X L (77, 20, [some (.inr (.inl 24)), some (.inr (.inl q)), some (.inl a2), some (.inl a3), some (.inl 1), some (.inl 0)], [], M) Q) :
    pm_X L (77, 14, [some (.inr (.inl 24)), some (.inr (.inl q)), some (.inl a2), some (.inl a3), o4, o5], [], M) Q := by
  refine x_iconst i_77_14 (by decide) rfl ?_
  refine x_istore i_77_15 (Nat.le_of_ble_eq_true rfl) rfl rfl ?_
  refine x_iconst i_77_17 (by decide) rfl ?_
  refine x_istore i_77_18 (Nat.le_of_ble_eq_true rfl) rfl rfl ?_
  exact h
/-! GateBenchModel.some at 20 -/
theorem s_77_20 {L : Nat} {M : pm_M} {Q : pm_P} {a2 a3 a4 a5 : Int} {q : Nat} (gq : (pm_cells L)[q]? = some (.inl (0, 20)))
    (h : ((a2 ≤ a5 → ((a4 = 0 → pm_X L (74, 0, [some (.inr (.inl 24)), none], [], M) (pm_back (pm_X L) 77 64 [some (.inr (.inl 24)), some (.inr (.inl q)), some (.inl a2), some (.inl a3), some (.inl a4), some (.inl a5)] [] Q)) ∧ (¬ (a4 = 0) → Q (.inl (some (.inl 1))) M))) ∧ (¬ (a2 ≤ a5) → ((a4 = 0 → (pm_R (a5 + 1)) ∧ pm_X L (77, 20, [some (.inr (.inl 24)), some (.inr (.inl q)), some (.inl a2), some (.inl a3), some (.inl 0), some (.inl (a5 + 1))], [], M) Q) ∧ (¬ (a4 = 0) → (0 ≤ a5 ∧ a5 < 20) ∧ (0 ≤ M q a5 ∧ M q a5 < 2000) ∧ ((M 32 (M q a5) = 0 → (pm_R (a5 + 1)) ∧ pm_X L (77, 20, [some (.inr (.inl 24)), some (.inr (.inl q)), some (.inl a2), some (.inl a3), some (.inl 0), some (.inl (a5 + 1))], [], M) Q) ∧ (¬ (M 32 (M q a5) = 0) → (pm_R (a5 + 1)) ∧ pm_X L (77, 20, [some (.inr (.inl 24)), some (.inr (.inl q)), some (.inl a2), some (.inl a3), some (.inl 1), some (.inl (a5 + 1))], [], M) Q))))))) :
    pm_X L (77, 20, [some (.inr (.inl 24)), some (.inr (.inl q)), some (.inl a2), some (.inl a3), some (.inl a4), some (.inl a5)], [], M) Q := by
  refine x_iload i_77_20 rfl rfl ?_
  refine x_iload_n i_77_22 rfl rfl ?_
  refine x_icmp (C := a2 ≤ a5) i_77_23 rfl Iff.rfl rfl ⟨fun c1 => ?_, fun c1 => ?_⟩
  · replace h := h.1 c1
    refine x_iload i_77_56 rfl rfl ?_
    refine x_if (C := a4 = 0) i_77_58 rfl Iff.rfl rfl ⟨fun c2 => ?_, fun c2 => ?_⟩
    · replace h := h.1 c2
      refine x_aload_n i_77_63 rfl rfl ?_
      refine x_callv (as := []) (rest := []) i_77_64 k_77_69 rfl rfl rfl g_24 (Nat.le_of_ble_eq_true rfl) m_74 rfl h
    · replace h := h.2 c2
      refine x_iconst i_77_61 (by decide) rfl ?_
      exact x_iretz i_77_62 r_77 (by unfold pm_bit; decide) h
  · replace h := h.2 c1
    refine x_iload i_77_26 rfl rfl ?_
    refine x_if (C := a4 = 0) i_77_28 rfl Iff.rfl rfl ⟨fun c3 => ?_, fun c3 => ?_⟩
    · replace h := h.1 c3
      refine x_iconst i_77_47 (by decide) rfl ?_
      refine x_istore i_77_48 (Nat.le_of_ble_eq_true rfl) rfl rfl ?_
      obtain ⟨q4, h⟩ := h
      refine x_iinc i_77_50 rfl (by decide) rfl rfl q4 ?_
      refine x_goto i_77_53 rfl ?_
      exact h
    · replace h := h.2 c3
      refine x_aload_n i_77_31 rfl rfl ?_
      refine x_getr i_77_32 f_77_45 g_24 rfl rfl ?_
      refine x_aload_n i_77_35 rfl rfl ?_
      refine x_iload i_77_36 rfl rfl ?_
      obtain ⟨q5, h⟩ := h
      refine x_iaload (v := M q a5) i_77_38 gq (rfl) rfl q5 ?_
      obtain ⟨q6, h⟩ := h
      refine x_baload (v := M 32 (M q a5)) i_77_39 g_32 (rfl) rfl q6 ?_
      refine x_if (C := M 32 (M q a5) = 0) i_77_40 rfl Iff.rfl rfl ⟨fun c7 => ?_, fun c7 => ?_⟩
      · replace h := h.1 c7
        refine x_iconst i_77_47 (by decide) rfl ?_
        refine x_istore i_77_48 (Nat.le_of_ble_eq_true rfl) rfl rfl ?_
        obtain ⟨q8, h⟩ := h
        refine x_iinc i_77_50 rfl (by decide) rfl rfl q8 ?_
        refine x_goto i_77_53 rfl ?_
        exact h
      · replace h := h.2 c7
        refine x_iconst i_77_43 (by decide) rfl ?_
        refine x_goto i_77_44 rfl ?_
        refine x_istore i_77_48 (Nat.le_of_ble_eq_true rfl) rfl rfl ?_
        obtain ⟨q9, h⟩ := h
        refine x_iinc i_77_50 rfl (by decide) rfl rfl q9 ?_
        refine x_goto i_77_53 rfl ?_
        exact h
/-! GateBenchModel.some at 67 -/
theorem s_77_67 {L : Nat} {M : pm_M} {Q : pm_P} {a2 a3 a4 a5 r : Int} {q : Nat} (gq : (pm_cells L)[q]? = some (.inl (0, 20)))
    (h : pm_X L (77, 6, [some (.inr (.inl 24)), some (.inr (.inl q)), some (.inl a2), some (.inl r), some (.inl a4), some (.inl a5)], [], M) Q) :
    pm_X L (77, 67, [some (.inr (.inl 24)), some (.inr (.inl q)), some (.inl a2), some (.inl a3), some (.inl a4), some (.inl a5)], [.inl r], M) Q := by
  refine x_istore_n i_77_67 (Nat.le_of_ble_eq_true rfl) rfl rfl ?_
  refine x_goto i_77_68 rfl ?_
  exact h
/-! GateBenchModel.some at 75 -/
theorem s_77_75 {L : Nat} {M : pm_M} {Q : pm_P} {a2 a3 : Int} {o4 o5 : Option pm_V} {q : Nat} (gq : (pm_cells L)[q]? = some (.inl (0, 20)))
    (h : Q (.inl (some (.inl 0))) M) :
    pm_X L (77, 75, [some (.inr (.inl 24)), some (.inr (.inl q)), some (.inl a2), some (.inl a3), o4, o5], [], M) Q := by
  refine x_iconst i_77_75 (by decide) rfl ?_
  exact x_iretz i_77_76 r_77 (by unfold pm_bit; decide) h
/-! GateBenchModel.can at 0 -/
theorem s_78_0 {L : Nat} {M : pm_M} {Q : pm_P}
    (h : pm_X L (77, 0, [some (.inr (.inl 24)), some (.inr (.inl 29)), some (.inl (M 24 3)), none, none, none], [], pm_set M 24 0 0) (pm_back (pm_X L) 78 14 [some (.inr (.inl 24))] [] Q)) :
    pm_X L (78, 0, [some (.inr (.inl 24))], [], M) Q := by
  refine x_aload_n i_78_0 rfl rfl ?_
  refine x_iconst i_78_1 (by decide) rfl ?_
  refine x_puti i_78_2 f_78_7 g_24 rfl rfl ?_
  refine x_aload_n i_78_5 rfl rfl ?_
  refine x_aload_n i_78_6 rfl rfl ?_
  refine x_getr i_78_7 f_78_35 g_24 rfl rfl ?_
  refine x_aload_n i_78_10 rfl rfl ?_
  refine x_geti (v := M 24 3) i_78_11 f_78_19 g_24 rfl (pm_get_j (by decide) rfl) rfl ?_
  refine x_callv (as := [.inr (.inl 29), .inl (M 24 3)]) (rest := []) i_78_14 k_78_76 rfl rfl rfl g_24 (Nat.le_of_ble_eq_true rfl) m_77 rfl h
/-! GateBenchModel.can at 17 -/
theorem s_78_17 {L : Nat} {M : pm_M} {Q : pm_P} {r : Int}
    (h : (pm_bit r) ∧ Q (.inl (some (.inl r))) M) :
    pm_X L (78, 17, [some (.inr (.inl 24))], [.inl r], M) Q := by
  obtain ⟨q1, h⟩ := h
  exact x_iretz i_78_17 r_78 q1 h
/-! GateBenchModel.shorten at 0 -/
theorem s_79_0 {L : Nat} {M : pm_M} {Q : pm_P}
    (h : pm_X L (77, 0, [some (.inr (.inl 24)), some (.inr (.inl 29)), some (.inl (M 24 3)), none, none, none], [], pm_set M 24 0 0) (pm_back (pm_X L) 79 14 [some (.inr (.inl 24)), none, none, none] [] Q)) :
    pm_X L (79, 0, [some (.inr (.inl 24)), none, none, none], [], M) Q := by
  refine x_aload_n i_79_0 rfl rfl ?_
  refine x_iconst i_79_1 (by decide) rfl ?_
  refine x_puti i_79_2 f_79_7 g_24 rfl rfl ?_
  refine x_aload_n i_79_5 rfl rfl ?_
  refine x_aload_n i_79_6 rfl rfl ?_
  refine x_getr i_79_7 f_79_35 g_24 rfl rfl ?_
  refine x_aload_n i_79_10 rfl rfl ?_
  refine x_geti (v := M 24 3) i_79_11 f_79_19 g_24 rfl (pm_get_j (by decide) rfl) rfl ?_
  refine x_callv (as := [.inr (.inl 29), .inl (M 24 3)]) (rest := []) i_79_14 k_79_76 rfl rfl rfl g_24 (Nat.le_of_ble_eq_true rfl) m_77 rfl h
/-! GateBenchModel.shorten at 17 -/
theorem s_79_17 {L : Nat} {M : pm_M} {Q : pm_P} {r : Int}
    (h : ((r = 0 → pm_X L (79, 28, [some (.inr (.inl 24)), some (.inl 0), none, none], [], M) Q) ∧ (¬ (r = 0) → pm_X L (76, 0, [some (.inr (.inl 24)), none], [], M) (pm_back (pm_X L) 79 21 [some (.inr (.inl 24)), none, none, none] [] Q)))) :
    pm_X L (79, 17, [some (.inr (.inl 24)), none, none, none], [.inl r], M) Q := by
  refine x_if (C := r = 0) i_79_17 rfl Iff.rfl rfl ⟨fun c1 => ?_, fun c1 => ?_⟩
  · replace h := h.1 c1
    refine x_iconst i_79_26 (by decide) rfl ?_
    refine x_istore_n i_79_27 (Nat.le_of_ble_eq_true rfl) rfl rfl ?_
    exact h
  · replace h := h.2 c1
    refine x_aload_n i_79_20 rfl rfl ?_
    refine x_callv (as := []) (rest := []) i_79_21 k_79_73 rfl rfl rfl g_24 (Nat.le_of_ble_eq_true rfl) m_76 rfl h
/-! GateBenchModel.shorten at 24 -/
theorem s_79_24 {L : Nat} {M : pm_M} {Q : pm_P}
    (h : Q (.inl (some (.inl (-1)))) M) :
    pm_X L (79, 24, [some (.inr (.inl 24)), none, none, none], [], M) Q := by
  refine x_iconst i_79_24 (by decide) rfl ?_
  exact x_ireti i_79_25 r_79 h
/-! GateBenchModel.shorten at 28 -/
theorem s_79_28 {L : Nat} {M : pm_M} {Q : pm_P} {a1 : Int} {o2 o3 : Option pm_V}
    (h : ((M 24 3 ≤ a1 → Q (.inl (some (.inl (M 24 3)))) M) ∧ (¬ (M 24 3 ≤ a1) → pm_X L (79, 40, [some (.inr (.inl 24)), some (.inl a1), some (.inl 0), some (.inl 0)], [], M) Q))) :
    pm_X L (79, 28, [some (.inr (.inl 24)), some (.inl a1), o2, o3], [], M) Q := by
  refine x_iload_n i_79_28 rfl rfl ?_
  refine x_aload_n i_79_29 rfl rfl ?_
  refine x_geti (v := M 24 3) i_79_30 f_79_19 g_24 rfl (rfl) rfl ?_
  refine x_icmp (C := M 24 3 ≤ a1) i_79_33 rfl Iff.rfl rfl ⟨fun c1 => ?_, fun c1 => ?_⟩
  · replace h := h.1 c1
    refine x_aload_n i_79_129 rfl rfl ?_
    refine x_geti (v := M 24 3) i_79_130 f_79_19 g_24 rfl (rfl) rfl ?_
    exact x_ireti i_79_133 r_79 h
  · replace h := h.2 c1
    refine x_iconst i_79_36 (by decide) rfl ?_
    refine x_istore_n i_79_37 (Nat.le_of_ble_eq_true rfl) rfl rfl ?_
    refine x_iconst i_79_38 (by decide) rfl ?_
    refine x_istore_n i_79_39 (Nat.le_of_ble_eq_true rfl) rfl rfl ?_
    exact h
/-! GateBenchModel.shorten at 40 -/
theorem s_79_40 {L : Nat} {M : pm_M} {Q : pm_P} {a1 a2 a3 : Int}
    (h : ((M 24 3 ≤ a3 → pm_X L (77, 0, [some (.inr (.inl 24)), some (.inr (.inl 33)), some (.inl a2), none, none, none], [], M) (pm_back (pm_X L) 79 80 [some (.inr (.inl 24)), some (.inl a1), some (.inl a2), some (.inl a3)] [] Q)) ∧ (¬ (M 24 3 ≤ a3) → ((a3 = a1 → (pm_R (a3 + 1)) ∧ pm_X L (79, 40, [some (.inr (.inl 24)), some (.inl a1), some (.inl a2), some (.inl (a3 + 1))], [], M) Q) ∧ (¬ (a3 = a1) → (pm_R (a2 + 1)) ∧ (0 ≤ a3 ∧ a3 < 20) ∧ (0 ≤ a2 ∧ a2 < 20) ∧ (pm_R (a3 + 1)) ∧ pm_X L (79, 40, [some (.inr (.inl 24)), some (.inl a1), some (.inl (a2 + 1)), some (.inl (a3 + 1))], [], pm_set M 33 a2 (M 29 a3)) Q))))) :
    pm_X L (79, 40, [some (.inr (.inl 24)), some (.inl a1), some (.inl a2), some (.inl a3)], [], M) Q := by
  refine x_iload_n i_79_40 rfl rfl ?_
  refine x_aload_n i_79_41 rfl rfl ?_
  refine x_geti (v := M 24 3) i_79_42 f_79_19 g_24 rfl (rfl) rfl ?_
  refine x_icmp (C := M 24 3 ≤ a3) i_79_45 rfl Iff.rfl rfl ⟨fun c1 => ?_, fun c1 => ?_⟩
  · replace h := h.1 c1
    refine x_aload_n i_79_74 rfl rfl ?_
    refine x_aload_n i_79_75 rfl rfl ?_
    refine x_getr i_79_76 f_79_48 g_24 rfl rfl ?_
    refine x_iload_n i_79_79 rfl rfl ?_
    refine x_callv (as := [.inr (.inl 33), .inl a2]) (rest := []) i_79_80 k_79_76 rfl rfl rfl g_24 (Nat.le_of_ble_eq_true rfl) m_77 rfl h
  · replace h := h.2 c1
    refine x_iload_n i_79_48 rfl rfl ?_
    refine x_iload_n i_79_49 rfl rfl ?_
    refine x_icmp (C := a3 = a1) i_79_50 rfl Iff.rfl rfl ⟨fun c2 => ?_, fun c2 => ?_⟩
    · replace h := h.1 c2
      obtain ⟨q3, h⟩ := h
      refine x_iinc i_79_68 rfl (by decide) rfl rfl q3 ?_
      refine x_goto i_79_71 rfl ?_
      exact h
    · replace h := h.2 c2
      refine x_aload_n i_79_53 rfl rfl ?_
      refine x_getr i_79_54 f_79_48 g_24 rfl rfl ?_
      refine x_iload_n i_79_57 rfl rfl ?_
      obtain ⟨q4, h⟩ := h
      refine x_iinc i_79_58 rfl (by decide) rfl rfl q4 ?_
      refine x_aload_n i_79_61 rfl rfl ?_
      refine x_getr i_79_62 f_79_35 g_24 rfl rfl ?_
      refine x_iload_n i_79_65 rfl rfl ?_
      obtain ⟨q5, h⟩ := h
      refine x_iaload (v := M 29 a3) i_79_66 g_29 (rfl) rfl q5 ?_
      obtain ⟨q6, h⟩ := h
      refine x_iastore i_79_67 g_33 rfl q6 ?_
      obtain ⟨q7, h⟩ := h
      refine x_iinc i_79_68 rfl (by decide) rfl rfl q7 ?_
      refine x_goto i_79_71 rfl ?_
      exact h
/-! GateBenchModel.shorten at 83 -/
theorem s_79_83 {L : Nat} {M : pm_M} {Q : pm_P} {a1 a2 a3 r : Int}
    (h : ((r = 0 → pm_X L (79, 103, [some (.inr (.inl 24)), some (.inl a1), some (.inl a2), some (.inl 0)], [], pm_set M 24 3 a2) Q) ∧ (¬ (r = 0) → pm_X L (76, 0, [some (.inr (.inl 24)), none], [], M) (pm_back (pm_X L) 79 87 [some (.inr (.inl 24)), some (.inl a1), some (.inl a2), some (.inl a3)] [] Q)))) :
    pm_X L (79, 83, [some (.inr (.inl 24)), some (.inl a1), some (.inl a2), some (.inl a3)], [.inl r], M) Q := by
  refine x_if (C := r = 0) i_79_83 rfl Iff.rfl rfl ⟨fun c1 => ?_, fun c1 => ?_⟩
  · replace h := h.1 c1
    refine x_aload_n i_79_96 rfl rfl ?_
    refine x_iload_n i_79_97 rfl rfl ?_
    refine x_puti i_79_98 f_79_19 g_24 rfl rfl ?_
    refine x_iconst i_79_101 (by decide) rfl ?_
    refine x_istore_n i_79_102 (Nat.le_of_ble_eq_true rfl) rfl rfl ?_
    exact h
  · replace h := h.2 c1
    refine x_aload_n i_79_86 rfl rfl ?_
    refine x_callv (as := []) (rest := []) i_79_87 k_79_73 rfl rfl rfl g_24 (Nat.le_of_ble_eq_true rfl) m_76 rfl h
/-! GateBenchModel.shorten at 90 -/
theorem s_79_90 {L : Nat} {M : pm_M} {Q : pm_P} {a1 a2 a3 : Int}
    (h : (pm_R (a1 + 1)) ∧ pm_X L (79, 28, [some (.inr (.inl 24)), some (.inl (a1 + 1)), some (.inl a2), some (.inl a3)], [], M) Q) :
    pm_X L (79, 90, [some (.inr (.inl 24)), some (.inl a1), some (.inl a2), some (.inl a3)], [], M) Q := by
  obtain ⟨q1, h⟩ := h
  refine x_iinc i_79_90 rfl (by decide) rfl rfl q1 ?_
  refine x_goto i_79_93 rfl ?_
  refine x_goto i_79_126 rfl ?_
  exact h
/-! GateBenchModel.shorten at 103 -/
theorem s_79_103 {L : Nat} {M : pm_M} {Q : pm_P} {a1 a2 a3 : Int}
    (h : ((a2 ≤ a3 → pm_X L (79, 28, [some (.inr (.inl 24)), some (.inl a1), some (.inl a2), some (.inl a3)], [], M) Q) ∧ (¬ (a2 ≤ a3) → (0 ≤ a3 ∧ a3 < 20) ∧ (pm_R (a3 + 1)) ∧ pm_X L (79, 103, [some (.inr (.inl 24)), some (.inl a1), some (.inl a2), some (.inl (a3 + 1))], [], pm_set M 29 a3 (M 33 a3)) Q))) :
    pm_X L (79, 103, [some (.inr (.inl 24)), some (.inl a1), some (.inl a2), some (.inl a3)], [], M) Q := by
  refine x_iload_n i_79_103 rfl rfl ?_
  refine x_iload_n i_79_104 rfl rfl ?_
  refine x_icmp (C := a2 ≤ a3) i_79_105 rfl Iff.rfl rfl ⟨fun c1 => ?_, fun c1 => ?_⟩
  · replace h := h.1 c1
    refine x_goto i_79_126 rfl ?_
    exact h
  · replace h := h.2 c1
    refine x_aload_n i_79_108 rfl rfl ?_
    refine x_getr i_79_109 f_79_35 g_24 rfl rfl ?_
    refine x_iload_n i_79_112 rfl rfl ?_
    refine x_aload_n i_79_113 rfl rfl ?_
    refine x_getr i_79_114 f_79_48 g_24 rfl rfl ?_
    refine x_iload_n i_79_117 rfl rfl ?_
    obtain ⟨q2, h⟩ := h
    refine x_iaload (v := M 33 a3) i_79_118 g_33 (rfl) rfl q2 ?_
    refine x_iastore i_79_119 g_29 rfl q2 ?_
    obtain ⟨q3, h⟩ := h
    refine x_iinc i_79_120 rfl (by decide) rfl rfl q3 ?_
    refine x_goto i_79_123 rfl ?_
    exact h
/-! GateBenchModel.wanted at 0 -/
theorem s_80_0 {L : Nat} {M : pm_M} {Q : pm_P} {a1 : Int}
    (h : ((a1 < 0 → Q (.inl (some (.inl 0))) (pm_set (pm_set M 24 0 0) 24 0 1)) ∧ (¬ (a1 < 0) → ((a1 < M 24 3 → (0 ≤ a1 ∧ a1 < 20) ∧ Q (.inl (some (.inl (M 29 a1)))) (pm_set M 24 0 0)) ∧ (¬ (a1 < M 24 3) → Q (.inl (some (.inl 0))) (pm_set (pm_set M 24 0 0) 24 0 1)))))) :
    pm_X L (80, 0, [some (.inr (.inl 24)), some (.inl a1)], [], M) Q := by
  refine x_aload_n i_80_0 rfl rfl ?_
  refine x_iconst i_80_1 (by decide) rfl ?_
  refine x_puti i_80_2 f_80_7 g_24 rfl rfl ?_
  refine x_aload_n i_80_5 rfl rfl ?_
  refine x_iconst i_80_6 (by decide) rfl ?_
  refine x_iload_n i_80_7 rfl rfl ?_
  refine x_if (C := a1 < 0) i_80_8 rfl Iff.rfl rfl ⟨fun c1 => ?_, fun c1 => ?_⟩
  · replace h := h.1 c1
    refine x_iconst i_80_19 (by decide) rfl ?_
    refine x_goto i_80_20 rfl ?_
    refine x_callv (as := [.inl 1, .inl 1]) (rest := []) i_80_24 k_80_51 rfl rfl rfl g_24 (Nat.le_of_ble_eq_true rfl) m_64 rfl ?_
    refine x_iload_n i_64_0 rfl rfl ?_
    refine x_ifF i_64_1 rfl (by unfold pm_cmp; decide) rfl ?_
    refine x_aload_n i_64_4 rfl rfl ?_
    refine x_iload_n i_64_5 rfl rfl ?_
    refine x_puti i_64_6 f_64_7 g_24 rfl rfl ?_
    refine x_iload_n i_64_9 rfl rfl ?_
    refine x_iretz i_64_10 r_64 (by unfold pm_bit; decide) ?_
    refine x_bki rfl ?_
    refine x_ifF i_80_27 rfl (by unfold pm_cmp; decide) rfl ?_
    refine x_iconst i_80_30 (by decide) rfl ?_
    exact x_ireti i_80_31 r_80 h
  · replace h := h.2 c1
    refine x_iload_n i_80_11 rfl rfl ?_
    refine x_aload_n i_80_12 rfl rfl ?_
    refine x_geti (v := M 24 3) i_80_13 f_80_19 g_24 rfl (pm_get_j (by decide) rfl) rfl ?_
    refine x_icmp (C := a1 < M 24 3) i_80_16 rfl Iff.rfl rfl ⟨fun c2 => ?_, fun c2 => ?_⟩
    · replace h := h.1 c2
      refine x_iconst i_80_23 (by decide) rfl ?_
      refine x_callv (as := [.inl 1, .inl 0]) (rest := []) i_80_24 k_80_51 rfl rfl rfl g_24 (Nat.le_of_ble_eq_true rfl) m_64 rfl ?_
      refine x_iload_n i_64_0 rfl rfl ?_
      refine x_ifT i_64_1 rfl (by unfold pm_cmp; decide) ?_
      refine x_iload_n i_64_9 rfl rfl ?_
      refine x_iretz i_64_10 r_64 (by unfold pm_bit; decide) ?_
      refine x_bki rfl ?_
      refine x_ifT i_80_27 rfl (by unfold pm_cmp; decide) ?_
      refine x_aload_n i_80_32 rfl rfl ?_
      refine x_getr i_80_33 f_80_35 g_24 rfl rfl ?_
      refine x_iload_n i_80_36 rfl rfl ?_
      obtain ⟨q3, h⟩ := h
      refine x_iaload (v := M 29 a1) i_80_37 g_29 (pm_get_c (by decide) rfl) rfl q3 ?_
      exact x_ireti i_80_38 r_80 h
    · replace h := h.2 c2
      refine x_iconst i_80_19 (by decide) rfl ?_
      refine x_goto i_80_20 rfl ?_
      refine x_callv (as := [.inl 1, .inl 1]) (rest := []) i_80_24 k_80_51 rfl rfl rfl g_24 (Nat.le_of_ble_eq_true rfl) m_64 rfl ?_
      refine x_iload_n i_64_0 rfl rfl ?_
      refine x_ifF i_64_1 rfl (by unfold pm_cmp; decide) rfl ?_
      refine x_aload_n i_64_4 rfl rfl ?_
      refine x_iload_n i_64_5 rfl rfl ?_
      refine x_puti i_64_6 f_64_7 g_24 rfl rfl ?_
      refine x_iload_n i_64_9 rfl rfl ?_
      refine x_iretz i_64_10 r_64 (by unfold pm_bit; decide) ?_
      refine x_bki rfl ?_
      refine x_ifF i_80_27 rfl (by unfold pm_cmp; decide) rfl ?_
      refine x_iconst i_80_30 (by decide) rfl ?_
      exact x_ireti i_80_31 r_80 h
/-! GateBenchModel.same at 0 -/
theorem s_81_0 {L : Nat} {M : pm_M} {Q : pm_P} {a1 a2 : Int}
    (h : ((a1 < 0 → Q (.inl (some (.inl 0))) (pm_set (pm_set M 24 0 0) 24 0 1)) ∧ (¬ (a1 < 0) → ((a1 < M 24 1 → ((a2 < 0 → Q (.inl (some (.inl 0))) (pm_set (pm_set M 24 0 0) 24 0 1)) ∧ (¬ (a2 < 0) → ((a2 < M 24 1 → pm_X L (75, 0, [some (.inr (.inl 24)), none], [], pm_set M 24 0 0) (pm_back (pm_X L) 81 37 [some (.inr (.inl 24)), some (.inl a1), some (.inl a2), none] [] Q)) ∧ (¬ (a2 < M 24 1) → Q (.inl (some (.inl 0))) (pm_set (pm_set M 24 0 0) 24 0 1)))))) ∧ (¬ (a1 < M 24 1) → Q (.inl (some (.inl 0))) (pm_set (pm_set M 24 0 0) 24 0 1)))))) :
    pm_X L (81, 0, [some (.inr (.inl 24)), some (.inl a1), some (.inl a2), none], [], M) Q := by
  refine x_aload_n i_81_0 rfl rfl ?_
  refine x_iconst i_81_1 (by decide) rfl ?_
  refine x_puti i_81_2 f_81_7 g_24 rfl rfl ?_
  refine x_aload_n i_81_5 rfl rfl ?_
  refine x_iconst i_81_6 (by decide) rfl ?_
  refine x_aload_n i_81_7 rfl rfl ?_
  refine x_iload_n i_81_8 rfl rfl ?_
  refine x_callv (as := [.inl a1]) (rest := [.inl 1, .inr (.inl 24)]) i_81_9 k_81_59 rfl rfl rfl g_24 (Nat.le_of_ble_eq_true rfl) m_65 rfl ?_
  refine x_iload_n i_65_0 rfl rfl ?_
  refine x_if (C := a1 < 0) i_65_1 rfl Iff.rfl rfl ⟨fun c1 => ?_, fun c1 => ?_⟩
  · replace h := h.1 c1
    refine x_iconst i_65_12 (by decide) rfl ?_
    refine x_goto i_65_13 rfl ?_
    refine x_iretz i_65_17 r_65 (by unfold pm_bit; decide) ?_
    refine x_bki rfl ?_
    refine x_ifT i_81_12 rfl (by unfold pm_cmp; decide) ?_
    refine x_iconst i_81_23 (by decide) rfl ?_
    refine x_goto i_81_24 rfl ?_
    refine x_callv (as := [.inl 1, .inl 1]) (rest := []) i_81_28 k_81_51 rfl rfl rfl g_24 (Nat.le_of_ble_eq_true rfl) m_64 rfl ?_
    refine x_iload_n i_64_0 rfl rfl ?_
    refine x_ifF i_64_1 rfl (by unfold pm_cmp; decide) rfl ?_
    refine x_aload_n i_64_4 rfl rfl ?_
    refine x_iload_n i_64_5 rfl rfl ?_
    refine x_puti i_64_6 f_64_7 g_24 rfl rfl ?_
    refine x_iload_n i_64_9 rfl rfl ?_
    refine x_iretz i_64_10 r_64 (by unfold pm_bit; decide) ?_
    refine x_bki rfl ?_
    refine x_ifF i_81_31 rfl (by unfold pm_cmp; decide) rfl ?_
    refine x_iconst i_81_34 (by decide) rfl ?_
    exact x_iretz i_81_35 r_81 (by unfold pm_bit; decide) h
  · replace h := h.2 c1
    refine x_iload_n i_65_4 rfl rfl ?_
    refine x_aload_n i_65_5 rfl rfl ?_
    refine x_geti (v := M 24 1) i_65_6 f_65_13 g_24 rfl (pm_get_j (by decide) rfl) rfl ?_
    refine x_icmp (C := a1 < M 24 1) i_65_9 rfl Iff.rfl rfl ⟨fun c2 => ?_, fun c2 => ?_⟩
    · replace h := h.1 c2
      refine x_iconst i_65_16 (by decide) rfl ?_
      refine x_iretz i_65_17 r_65 (by unfold pm_bit; decide) ?_
      refine x_bki rfl ?_
      refine x_ifF i_81_12 rfl (by unfold pm_cmp; decide) rfl ?_
      refine x_aload_n i_81_15 rfl rfl ?_
      refine x_iload_n i_81_16 rfl rfl ?_
      refine x_callv (as := [.inl a2]) (rest := [.inl 1, .inr (.inl 24)]) i_81_17 k_81_59 rfl rfl rfl g_24 (Nat.le_of_ble_eq_true rfl) m_65 rfl ?_
      refine x_iload_n i_65_0 rfl rfl ?_
      refine x_if (C := a2 < 0) i_65_1 rfl Iff.rfl rfl ⟨fun c3 => ?_, fun c3 => ?_⟩
      · replace h := h.1 c3
        refine x_iconst i_65_12 (by decide) rfl ?_
        refine x_goto i_65_13 rfl ?_
        refine x_iretz i_65_17 r_65 (by unfold pm_bit; decide) ?_
        refine x_bki rfl ?_
        refine x_ifF i_81_20 rfl (by unfold pm_cmp; decide) rfl ?_
        refine x_iconst i_81_23 (by decide) rfl ?_
        refine x_goto i_81_24 rfl ?_
        refine x_callv (as := [.inl 1, .inl 1]) (rest := []) i_81_28 k_81_51 rfl rfl rfl g_24 (Nat.le_of_ble_eq_true rfl) m_64 rfl ?_
        refine x_iload_n i_64_0 rfl rfl ?_
        refine x_ifF i_64_1 rfl (by unfold pm_cmp; decide) rfl ?_
        refine x_aload_n i_64_4 rfl rfl ?_
        refine x_iload_n i_64_5 rfl rfl ?_
        refine x_puti i_64_6 f_64_7 g_24 rfl rfl ?_
        refine x_iload_n i_64_9 rfl rfl ?_
        refine x_iretz i_64_10 r_64 (by unfold pm_bit; decide) ?_
        refine x_bki rfl ?_
        refine x_ifF i_81_31 rfl (by unfold pm_cmp; decide) rfl ?_
        refine x_iconst i_81_34 (by decide) rfl ?_
        exact x_iretz i_81_35 r_81 (by unfold pm_bit; decide) h
      · replace h := h.2 c3
        refine x_iload_n i_65_4 rfl rfl ?_
        refine x_aload_n i_65_5 rfl rfl ?_
        refine x_geti (v := M 24 1) i_65_6 f_65_13 g_24 rfl (pm_get_j (by decide) rfl) rfl ?_
        refine x_icmp (C := a2 < M 24 1) i_65_9 rfl Iff.rfl rfl ⟨fun c4 => ?_, fun c4 => ?_⟩
        · replace h := h.1 c4
          refine x_iconst i_65_16 (by decide) rfl ?_
          refine x_iretz i_65_17 r_65 (by unfold pm_bit; decide) ?_
          refine x_bki rfl ?_
          refine x_ifT i_81_20 rfl (by unfold pm_cmp; decide) ?_
          refine x_iconst i_81_27 (by decide) rfl ?_
          refine x_callv (as := [.inl 1, .inl 0]) (rest := []) i_81_28 k_81_51 rfl rfl rfl g_24 (Nat.le_of_ble_eq_true rfl) m_64 rfl ?_
          refine x_iload_n i_64_0 rfl rfl ?_
          refine x_ifT i_64_1 rfl (by unfold pm_cmp; decide) ?_
          refine x_iload_n i_64_9 rfl rfl ?_
          refine x_iretz i_64_10 r_64 (by unfold pm_bit; decide) ?_
          refine x_bki rfl ?_
          refine x_ifT i_81_31 rfl (by unfold pm_cmp; decide) ?_
          refine x_aload_n i_81_36 rfl rfl ?_
          refine x_callv (as := []) (rest := []) i_81_37 k_81_63 rfl rfl rfl g_24 (Nat.le_of_ble_eq_true rfl) m_75 rfl h
        · replace h := h.2 c4
          refine x_iconst i_65_12 (by decide) rfl ?_
          refine x_goto i_65_13 rfl ?_
          refine x_iretz i_65_17 r_65 (by unfold pm_bit; decide) ?_
          refine x_bki rfl ?_
          refine x_ifF i_81_20 rfl (by unfold pm_cmp; decide) rfl ?_
          refine x_iconst i_81_23 (by decide) rfl ?_
          refine x_goto i_81_24 rfl ?_
          refine x_callv (as := [.inl 1, .inl 1]) (rest := []) i_81_28 k_81_51 rfl rfl rfl g_24 (Nat.le_of_ble_eq_true rfl) m_64 rfl ?_
          refine x_iload_n i_64_0 rfl rfl ?_
          refine x_ifF i_64_1 rfl (by unfold pm_cmp; decide) rfl ?_
          refine x_aload_n i_64_4 rfl rfl ?_
          refine x_iload_n i_64_5 rfl rfl ?_
          refine x_puti i_64_6 f_64_7 g_24 rfl rfl ?_
          refine x_iload_n i_64_9 rfl rfl ?_
          refine x_iretz i_64_10 r_64 (by unfold pm_bit; decide) ?_
          refine x_bki rfl ?_
          refine x_ifF i_81_31 rfl (by unfold pm_cmp; decide) rfl ?_
          refine x_iconst i_81_34 (by decide) rfl ?_
          exact x_iretz i_81_35 r_81 (by unfold pm_bit; decide) h
    · replace h := h.2 c2
      refine x_iconst i_65_12 (by decide) rfl ?_
      refine x_goto i_65_13 rfl ?_
      refine x_iretz i_65_17 r_65 (by unfold pm_bit; decide) ?_
      refine x_bki rfl ?_
      refine x_ifT i_81_12 rfl (by unfold pm_cmp; decide) ?_
      refine x_iconst i_81_23 (by decide) rfl ?_
      refine x_goto i_81_24 rfl ?_
      refine x_callv (as := [.inl 1, .inl 1]) (rest := []) i_81_28 k_81_51 rfl rfl rfl g_24 (Nat.le_of_ble_eq_true rfl) m_64 rfl ?_
      refine x_iload_n i_64_0 rfl rfl ?_
      refine x_ifF i_64_1 rfl (by unfold pm_cmp; decide) rfl ?_
      refine x_aload_n i_64_4 rfl rfl ?_
      refine x_iload_n i_64_5 rfl rfl ?_
      refine x_puti i_64_6 f_64_7 g_24 rfl rfl ?_
      refine x_iload_n i_64_9 rfl rfl ?_
      refine x_iretz i_64_10 r_64 (by unfold pm_bit; decide) ?_
      refine x_bki rfl ?_
      refine x_ifF i_81_31 rfl (by unfold pm_cmp; decide) rfl ?_
      refine x_iconst i_81_34 (by decide) rfl ?_
      exact x_iretz i_81_35 r_81 (by unfold pm_bit; decide) h
/-! GateBenchModel.same at 40 -/
theorem s_81_40 {L : Nat} {M : pm_M} {Q : pm_P} {a1 a2 : Int}
    (h : pm_X L (81, 42, [some (.inr (.inl 24)), some (.inl a1), some (.inl a2), some (.inl 1)], [], M) Q) :
    pm_X L (81, 40, [some (.inr (.inl 24)), some (.inl a1), some (.inl a2), none], [], M) Q := by
  refine x_iconst i_81_40 (by decide) rfl ?_
  refine x_istore_n i_81_41 (Nat.le_of_ble_eq_true rfl) rfl rfl ?_
  exact h
/-! GateBenchModel.same at 42 -/
theorem s_81_42 {L : Nat} {M : pm_M} {Q : pm_P} {a1 a2 a3 : Int}
    (h : ((a3 = 0 → pm_X L (76, 0, [some (.inr (.inl 24)), none], [], M) (pm_back (pm_X L) 81 76 [some (.inr (.inl 24)), some (.inl a1), some (.inl a2), some (.inl a3)] [] Q)) ∧ (¬ (a3 = 0) → pm_X L (73, 0, [some (.inr (.inl 24)), none], [], M) (pm_back (pm_X L) 81 47 [some (.inr (.inl 24)), some (.inl a1), some (.inl a2), some (.inl a3)] [] Q)))) :
    pm_X L (81, 42, [some (.inr (.inl 24)), some (.inl a1), some (.inl a2), some (.inl a3)], [], M) Q := by
  refine x_iload_n i_81_42 rfl rfl ?_
  refine x_if (C := a3 = 0) i_81_43 rfl Iff.rfl rfl ⟨fun c1 => ?_, fun c1 => ?_⟩
  · replace h := h.1 c1
    refine x_aload_n i_81_75 rfl rfl ?_
    refine x_callv (as := []) (rest := []) i_81_76 k_81_73 rfl rfl rfl g_24 (Nat.le_of_ble_eq_true rfl) m_76 rfl h
  · replace h := h.2 c1
    refine x_aload_n i_81_46 rfl rfl ?_
    refine x_callv (as := []) (rest := []) i_81_47 k_81_66 rfl rfl rfl g_24 (Nat.le_of_ble_eq_true rfl) m_73 rfl h
/-! GateBenchModel.same at 50 -/
theorem s_81_50 {L : Nat} {M : pm_M} {Q : pm_P} {a1 a2 a3 : Int}
    (h : (0 ≤ a1 ∧ a1 < 2000) ∧ (0 ≤ a2 ∧ a2 < 2000) ∧ ((M 32 a1 = M 32 a2 → pm_X L (74, 0, [some (.inr (.inl 24)), none], [], M) (pm_back (pm_X L) 81 68 [some (.inr (.inl 24)), some (.inl a1), some (.inl a2), some (.inl a3)] [] Q)) ∧ (¬ (M 32 a1 = M 32 a2) → Q (.inl (some (.inl 0))) M))) :
    pm_X L (81, 50, [some (.inr (.inl 24)), some (.inl a1), some (.inl a2), some (.inl a3)], [], M) Q := by
  refine x_aload_n i_81_50 rfl rfl ?_
  refine x_getr i_81_51 f_81_45 g_24 rfl rfl ?_
  refine x_iload_n i_81_54 rfl rfl ?_
  obtain ⟨q1, h⟩ := h
  refine x_baload (v := M 32 a1) i_81_55 g_32 (rfl) rfl q1 ?_
  refine x_aload_n i_81_56 rfl rfl ?_
  refine x_getr i_81_57 f_81_45 g_24 rfl rfl ?_
  refine x_iload_n i_81_60 rfl rfl ?_
  obtain ⟨q2, h⟩ := h
  refine x_baload (v := M 32 a2) i_81_61 g_32 (rfl) rfl q2 ?_
  refine x_icmp (C := M 32 a1 = M 32 a2) i_81_62 rfl Iff.rfl rfl ⟨fun c3 => ?_, fun c3 => ?_⟩
  · replace h := h.1 c3
    refine x_aload_n i_81_67 rfl rfl ?_
    refine x_callv (as := []) (rest := []) i_81_68 k_81_69 rfl rfl rfl g_24 (Nat.le_of_ble_eq_true rfl) m_74 rfl h
  · replace h := h.2 c3
    refine x_iconst i_81_65 (by decide) rfl ?_
    exact x_iretz i_81_66 r_81 (by unfold pm_bit; decide) h
/-! GateBenchModel.same at 71 -/
theorem s_81_71 {L : Nat} {M : pm_M} {Q : pm_P} {a1 a2 a3 r : Int}
    (h : pm_X L (81, 42, [some (.inr (.inl 24)), some (.inl a1), some (.inl a2), some (.inl r)], [], M) Q) :
    pm_X L (81, 71, [some (.inr (.inl 24)), some (.inl a1), some (.inl a2), some (.inl a3)], [.inl r], M) Q := by
  refine x_istore_n i_81_71 (Nat.le_of_ble_eq_true rfl) rfl rfl ?_
  refine x_goto i_81_72 rfl ?_
  exact h
/-! GateBenchModel.same at 79 -/
theorem s_81_79 {L : Nat} {M : pm_M} {Q : pm_P} {a1 a2 a3 : Int}
    (h : Q (.inl (some (.inl 1))) M) :
    pm_X L (81, 79, [some (.inr (.inl 24)), some (.inl a1), some (.inl a2), some (.inl a3)], [], M) Q := by
  refine x_iconst i_81_79 (by decide) rfl ?_
  exact x_iretz i_81_80 r_81 (by unfold pm_bit; decide) h
/-! GateBenchModel.put at 0 -/
theorem s_82_0 {L : Nat} {M : pm_M} {Q : pm_P} {a1 a2 : Int}
    (h : ((a1 < 0 → Q (.inl (some (.inl 0))) (pm_set (pm_set M 24 0 0) 24 0 1)) ∧ (¬ (a1 < 0) → ((a1 < M 24 2 → (0 ≤ a1 ∧ a1 < 12) ∧ ((0 ≤ a1 ∧ a1 < 12) ∧ pm_bit a2) ∧ (pm_bit (M 30 a1)) ∧ Q (.inl (some (.inl (M 30 a1)))) (pm_set (pm_set M 24 0 0) 30 a1 a2)) ∧ (¬ (a1 < M 24 2) → Q (.inl (some (.inl 0))) (pm_set (pm_set M 24 0 0) 24 0 1)))))) :
    pm_X L (82, 0, [some (.inr (.inl 24)), some (.inl a1), some (.inl a2), none], [], M) Q := by
  refine x_aload_n i_82_0 rfl rfl ?_
  refine x_iconst i_82_1 (by decide) rfl ?_
  refine x_puti i_82_2 f_82_7 g_24 rfl rfl ?_
  refine x_aload_n i_82_5 rfl rfl ?_
  refine x_iconst i_82_6 (by decide) rfl ?_
  refine x_iload_n i_82_7 rfl rfl ?_
  refine x_if (C := a1 < 0) i_82_8 rfl Iff.rfl rfl ⟨fun c1 => ?_, fun c1 => ?_⟩
  · replace h := h.1 c1
    refine x_iconst i_82_19 (by decide) rfl ?_
    refine x_goto i_82_20 rfl ?_
    refine x_callv (as := [.inl 1, .inl 1]) (rest := []) i_82_24 k_82_51 rfl rfl rfl g_24 (Nat.le_of_ble_eq_true rfl) m_64 rfl ?_
    refine x_iload_n i_64_0 rfl rfl ?_
    refine x_ifF i_64_1 rfl (by unfold pm_cmp; decide) rfl ?_
    refine x_aload_n i_64_4 rfl rfl ?_
    refine x_iload_n i_64_5 rfl rfl ?_
    refine x_puti i_64_6 f_64_7 g_24 rfl rfl ?_
    refine x_iload_n i_64_9 rfl rfl ?_
    refine x_iretz i_64_10 r_64 (by unfold pm_bit; decide) ?_
    refine x_bki rfl ?_
    refine x_ifF i_82_27 rfl (by unfold pm_cmp; decide) rfl ?_
    refine x_iconst i_82_30 (by decide) rfl ?_
    exact x_iretz i_82_31 r_82 (by unfold pm_bit; decide) h
  · replace h := h.2 c1
    refine x_iload_n i_82_11 rfl rfl ?_
    refine x_aload_n i_82_12 rfl rfl ?_
    refine x_geti (v := M 24 2) i_82_13 f_82_16 g_24 rfl (pm_get_j (by decide) rfl) rfl ?_
    refine x_icmp (C := a1 < M 24 2) i_82_16 rfl Iff.rfl rfl ⟨fun c2 => ?_, fun c2 => ?_⟩
    · replace h := h.1 c2
      refine x_iconst i_82_23 (by decide) rfl ?_
      refine x_callv (as := [.inl 1, .inl 0]) (rest := []) i_82_24 k_82_51 rfl rfl rfl g_24 (Nat.le_of_ble_eq_true rfl) m_64 rfl ?_
      refine x_iload_n i_64_0 rfl rfl ?_
      refine x_ifT i_64_1 rfl (by unfold pm_cmp; decide) ?_
      refine x_iload_n i_64_9 rfl rfl ?_
      refine x_iretz i_64_10 r_64 (by unfold pm_bit; decide) ?_
      refine x_bki rfl ?_
      refine x_ifT i_82_27 rfl (by unfold pm_cmp; decide) ?_
      refine x_aload_n i_82_32 rfl rfl ?_
      refine x_getr i_82_33 f_82_38 g_24 rfl rfl ?_
      refine x_iload_n i_82_36 rfl rfl ?_
      obtain ⟨q3, h⟩ := h
      refine x_baload (v := M 30 a1) i_82_37 g_30 (pm_get_c (by decide) rfl) rfl q3 ?_
      refine x_istore_n i_82_38 (Nat.le_of_ble_eq_true rfl) rfl rfl ?_
      refine x_aload_n i_82_39 rfl rfl ?_
      refine x_getr i_82_40 f_82_38 g_24 rfl rfl ?_
      refine x_iload_n i_82_43 rfl rfl ?_
      refine x_iload_n i_82_44 rfl rfl ?_
      obtain ⟨q4, h⟩ := h
      refine x_bastore i_82_45 g_30 rfl q4 ?_
      refine x_iload_n i_82_46 rfl rfl ?_
      obtain ⟨q5, h⟩ := h
      exact x_iretz i_82_47 r_82 q5 h
    · replace h := h.2 c2
      refine x_iconst i_82_19 (by decide) rfl ?_
      refine x_goto i_82_20 rfl ?_
      refine x_callv (as := [.inl 1, .inl 1]) (rest := []) i_82_24 k_82_51 rfl rfl rfl g_24 (Nat.le_of_ble_eq_true rfl) m_64 rfl ?_
      refine x_iload_n i_64_0 rfl rfl ?_
      refine x_ifF i_64_1 rfl (by unfold pm_cmp; decide) rfl ?_
      refine x_aload_n i_64_4 rfl rfl ?_
      refine x_iload_n i_64_5 rfl rfl ?_
      refine x_puti i_64_6 f_64_7 g_24 rfl rfl ?_
      refine x_iload_n i_64_9 rfl rfl ?_
      refine x_iretz i_64_10 r_64 (by unfold pm_bit; decide) ?_
      refine x_bki rfl ?_
      refine x_ifF i_82_27 rfl (by unfold pm_cmp; decide) rfl ?_
      refine x_iconst i_82_30 (by decide) rfl ?_
      exact x_iretz i_82_31 r_82 (by unfold pm_bit; decide) h
/-! GateBenchModel.value at 0 -/
theorem s_83_0 {L : Nat} {M : pm_M} {Q : pm_P} {a1 : Int}
    (h : ((a1 < 0 → Q (.inl (some (.inl 0))) (pm_set (pm_set M 24 0 0) 24 0 1)) ∧ (¬ (a1 < 0) → ((a1 < M 24 1 → pm_X L (73, 0, [some (.inr (.inl 24)), none], [], pm_set M 24 0 0) (pm_back (pm_X L) 83 21 [some (.inr (.inl 24)), some (.inl a1)] [] Q)) ∧ (¬ (a1 < M 24 1) → Q (.inl (some (.inl 0))) (pm_set (pm_set M 24 0 0) 24 0 1)))))) :
    pm_X L (83, 0, [some (.inr (.inl 24)), some (.inl a1)], [], M) Q := by
  refine x_aload_n i_83_0 rfl rfl ?_
  refine x_iconst i_83_1 (by decide) rfl ?_
  refine x_puti i_83_2 f_83_7 g_24 rfl rfl ?_
  refine x_aload_n i_83_5 rfl rfl ?_
  refine x_iconst i_83_6 (by decide) rfl ?_
  refine x_aload_n i_83_7 rfl rfl ?_
  refine x_iload_n i_83_8 rfl rfl ?_
  refine x_callv (as := [.inl a1]) (rest := [.inl 1, .inr (.inl 24)]) i_83_9 k_83_59 rfl rfl rfl g_24 (Nat.le_of_ble_eq_true rfl) m_65 rfl ?_
  refine x_iload_n i_65_0 rfl rfl ?_
  refine x_if (C := a1 < 0) i_65_1 rfl Iff.rfl rfl ⟨fun c1 => ?_, fun c1 => ?_⟩
  · replace h := h.1 c1
    refine x_iconst i_65_12 (by decide) rfl ?_
    refine x_goto i_65_13 rfl ?_
    refine x_iretz i_65_17 r_65 (by unfold pm_bit; decide) ?_
    refine x_bki rfl ?_
    refine x_callv (as := [.inl 1, .inl 1]) (rest := []) i_83_12 k_83_51 rfl rfl rfl g_24 (Nat.le_of_ble_eq_true rfl) m_64 rfl ?_
    refine x_iload_n i_64_0 rfl rfl ?_
    refine x_ifF i_64_1 rfl (by unfold pm_cmp; decide) rfl ?_
    refine x_aload_n i_64_4 rfl rfl ?_
    refine x_iload_n i_64_5 rfl rfl ?_
    refine x_puti i_64_6 f_64_7 g_24 rfl rfl ?_
    refine x_iload_n i_64_9 rfl rfl ?_
    refine x_iretz i_64_10 r_64 (by unfold pm_bit; decide) ?_
    refine x_bki rfl ?_
    refine x_ifF i_83_15 rfl (by unfold pm_cmp; decide) rfl ?_
    refine x_iconst i_83_18 (by decide) rfl ?_
    exact x_iretz i_83_19 r_83 (by unfold pm_bit; decide) h
  · replace h := h.2 c1
    refine x_iload_n i_65_4 rfl rfl ?_
    refine x_aload_n i_65_5 rfl rfl ?_
    refine x_geti (v := M 24 1) i_65_6 f_65_13 g_24 rfl (pm_get_j (by decide) rfl) rfl ?_
    refine x_icmp (C := a1 < M 24 1) i_65_9 rfl Iff.rfl rfl ⟨fun c2 => ?_, fun c2 => ?_⟩
    · replace h := h.1 c2
      refine x_iconst i_65_16 (by decide) rfl ?_
      refine x_iretz i_65_17 r_65 (by unfold pm_bit; decide) ?_
      refine x_bki rfl ?_
      refine x_callv (as := [.inl 1, .inl 0]) (rest := []) i_83_12 k_83_51 rfl rfl rfl g_24 (Nat.le_of_ble_eq_true rfl) m_64 rfl ?_
      refine x_iload_n i_64_0 rfl rfl ?_
      refine x_ifT i_64_1 rfl (by unfold pm_cmp; decide) ?_
      refine x_iload_n i_64_9 rfl rfl ?_
      refine x_iretz i_64_10 r_64 (by unfold pm_bit; decide) ?_
      refine x_bki rfl ?_
      refine x_ifT i_83_15 rfl (by unfold pm_cmp; decide) ?_
      refine x_aload_n i_83_20 rfl rfl ?_
      refine x_callv (as := []) (rest := []) i_83_21 k_83_66 rfl rfl rfl g_24 (Nat.le_of_ble_eq_true rfl) m_73 rfl h
    · replace h := h.2 c2
      refine x_iconst i_65_12 (by decide) rfl ?_
      refine x_goto i_65_13 rfl ?_
      refine x_iretz i_65_17 r_65 (by unfold pm_bit; decide) ?_
      refine x_bki rfl ?_
      refine x_callv (as := [.inl 1, .inl 1]) (rest := []) i_83_12 k_83_51 rfl rfl rfl g_24 (Nat.le_of_ble_eq_true rfl) m_64 rfl ?_
      refine x_iload_n i_64_0 rfl rfl ?_
      refine x_ifF i_64_1 rfl (by unfold pm_cmp; decide) rfl ?_
      refine x_aload_n i_64_4 rfl rfl ?_
      refine x_iload_n i_64_5 rfl rfl ?_
      refine x_puti i_64_6 f_64_7 g_24 rfl rfl ?_
      refine x_iload_n i_64_9 rfl rfl ?_
      refine x_iretz i_64_10 r_64 (by unfold pm_bit; decide) ?_
      refine x_bki rfl ?_
      refine x_ifF i_83_15 rfl (by unfold pm_cmp; decide) rfl ?_
      refine x_iconst i_83_18 (by decide) rfl ?_
      exact x_iretz i_83_19 r_83 (by unfold pm_bit; decide) h
/-! GateBenchModel.value at 24 -/
theorem s_83_24 {L : Nat} {M : pm_M} {Q : pm_P} {a1 : Int}
    (h : (0 ≤ a1 ∧ a1 < 2000) ∧ (pm_bit (M 32 a1)) ∧ Q (.inl (some (.inl (M 32 a1)))) M) :
    pm_X L (83, 24, [some (.inr (.inl 24)), some (.inl a1)], [], M) Q := by
  refine x_aload_n i_83_24 rfl rfl ?_
  refine x_getr i_83_25 f_83_45 g_24 rfl rfl ?_
  refine x_iload_n i_83_28 rfl rfl ?_
  obtain ⟨q1, h⟩ := h
  refine x_baload (v := M 32 a1) i_83_29 g_32 (rfl) rfl q1 ?_
  obtain ⟨q2, h⟩ := h
  exact x_iretz i_83_30 r_83 q2 h
/-! GateBenchModel.doubts at 0 -/
theorem s_84_0 {L : Nat} {M : pm_M} {Q : pm_P}
    (h : Q (.inl (some (.inl 0))) (pm_set M 24 0 0)) :
    pm_X L (84, 0, [some (.inr (.inl 24))], [], M) Q := by
  refine x_aload_n i_84_0 rfl rfl ?_
  refine x_iconst i_84_1 (by decide) rfl ?_
  refine x_puti i_84_2 f_84_7 g_24 rfl rfl ?_
  refine x_iconst i_84_5 (by decide) rfl ?_
  exact x_ireti i_84_6 r_84 h
/-! GateBenchModel.count at 0 -/
theorem s_85_0 {L : Nat} {M : pm_M} {Q : pm_P} {a1 : Int}
    (h : ((a1 = 0 → Q (.inl (some (.inl (M 24 1)))) (pm_set M 24 0 0)) ∧ (a1 = 1 → Q (.inl (some (.inl (M 24 2)))) (pm_set M 24 0 0)) ∧ (a1 = 2 → Q (.inl (some (.inl (M 24 3)))) (pm_set M 24 0 0)) ∧ ((a1 < 0 ∨ 2 < a1) → Q (.inl (some (.inl (-1)))) (pm_set M 24 0 0)))) :
    pm_X L (85, 0, [some (.inr (.inl 24)), some (.inl a1)], [], M) Q := by
  refine x_aload_n i_85_0 rfl rfl ?_
  refine x_iconst i_85_1 (by decide) rfl ?_
  refine x_puti i_85_2 f_85_7 g_24 rfl rfl ?_
  refine x_iload_n i_85_5 rfl rfl ?_
  rcases (by omega : a1 = 0 ∨ a1 = 1 ∨ a1 = 2 ∨ (a1 < 0 ∨ 2 < a1)) with c1 | c1 | c1 | c1
  · replace h := h.1 c1
    refine x_swV i_85_6 c1 (by decide) rfl rfl ?_
    refine x_aload_n i_85_32 rfl rfl ?_
    refine x_geti (v := M 24 1) i_85_33 f_85_13 g_24 rfl (pm_get_j (by decide) rfl) rfl ?_
    exact x_ireti i_85_36 r_85 h
  · replace h := h.2.1 c1
    refine x_swV i_85_6 c1 (by decide) rfl rfl ?_
    refine x_aload_n i_85_37 rfl rfl ?_
    refine x_geti (v := M 24 2) i_85_38 f_85_16 g_24 rfl (pm_get_j (by decide) rfl) rfl ?_
    exact x_ireti i_85_41 r_85 h
  · replace h := h.2.2.1 c1
    refine x_swV i_85_6 c1 (by decide) rfl rfl ?_
    refine x_aload_n i_85_42 rfl rfl ?_
    refine x_geti (v := M 24 3) i_85_43 f_85_19 g_24 rfl (pm_get_j (by decide) rfl) rfl ?_
    exact x_ireti i_85_46 r_85 h
  · replace h := h.2.2.2 c1
    refine x_swO i_85_6 rfl c1 ?_
    refine x_iconst i_85_47 (by decide) rfl ?_
    exact x_ireti i_85_48 r_85 h
end
section
/-! GateBenchLaw.input at 0 -/
theorem s_86_0 {L : Nat} {M : pm_M} {Q : pm_P}
    (h : ((¬ M 1 7 = 12 → ((¬ M 1 6 = 2000 → (0 ≤ M 1 7 ∧ M 1 7 < 12) ∧ (pm_R (M 1 7 + 1)) ∧ (0 ≤ M 1 6 ∧ M 1 6 < 2000) ∧ (pm_R (M 1 6 + 1)) ∧ Q (.inl (some (.inl 0))) (pm_set (pm_set (pm_set (pm_set (pm_set (pm_set (pm_set M 12 (M 1 7) (M 1 6)) 1 7 (M 1 7 + 1)) 7 (M 1 6) (-1)) 8 (M 1 6) 0) 9 (M 1 6) 0) 1 6 (M 1 6 + 1)) 34 0 (M 1 6))) ∧ (¬ (¬ M 1 6 = 2000) → (1 ≤ M 99 0) ∧ Q (.inl (some (.inl 1))) (pm_set M 99 0 (M 99 0 - 1))))) ∧ (¬ (¬ M 1 7 = 12) → (1 ≤ M 99 0) ∧ Q (.inl (some (.inl 1))) (pm_set M 99 0 (M 99 0 - 1))))) :
    pm_X L (86, 0, [some (.inr (.inl 0)), some (.inr (.inl 34)), none], [], M) Q := by
  refine x_aload_n i_86_0 rfl rfl ?_
  refine x_iconst i_86_1 (by decide) rfl ?_
  refine x_aload_n i_86_2 rfl rfl ?_
  refine x_callv (as := []) (rest := [.inl 0, .inr (.inl 34)]) i_86_3 k_86_7 rfl rfl rfl g_0 (Nat.le_of_ble_eq_true rfl) m_0 rfl ?_
  refine x_aload_n i_0_0 rfl rfl ?_
  refine x_getr i_0_1 f_0_12 g_0 rfl rfl ?_
  refine x_geti (v := M 1 7) i_0_4 f_0_45 g_1 rfl (rfl) rfl ?_
  refine x_bipush i_0_7 (by decide) rfl ?_
  refine x_icmp (C := ¬ M 1 7 = 12) i_0_9 rfl Iff.rfl rfl ⟨fun c1 => ?_, fun c1 => ?_⟩
  · replace h := h.1 c1
    refine x_aload_n i_0_22 rfl rfl ?_
    refine x_callv (as := []) (rest := []) i_0_23 k_0_56 rfl rfl rfl g_0 (Nat.le_of_ble_eq_true rfl) m_18 rfl ?_
    refine x_aload_n i_18_0 rfl rfl ?_
    refine x_getr i_18_1 f_18_12 g_0 rfl rfl ?_
    refine x_geti (v := M 1 6) i_18_4 f_18_126 g_1 rfl (rfl) rfl ?_
    refine x_sipush i_18_7 (by decide) rfl ?_
    refine x_icmp (C := ¬ M 1 6 = 2000) i_18_10 rfl Iff.rfl rfl ⟨fun c2 => ?_, fun c2 => ?_⟩
    · replace h := h.1 c2
      refine x_ret i_18_23 r_18 ?_
      refine x_bkv rfl ?_
      refine x_aload_n i_0_26 rfl rfl ?_
      refine x_getr i_0_27 f_0_12 g_0 rfl rfl ?_
      refine x_callv (as := []) (rest := []) i_0_30 k_0_59 rfl rfl rfl g_1 (Nat.le_of_ble_eq_true rfl) m_24 rfl ?_
      refine x_aload_n i_24_0 rfl rfl ?_
      refine x_getr i_24_1 f_24_28 g_1 rfl rfl ?_
      refine x_aload_n i_24_4 rfl rfl ?_
      refine x_geti (v := M 1 7) i_24_5 f_24_35 g_1 rfl (rfl) rfl ?_
      refine x_aload_n i_24_8 rfl rfl ?_
      refine x_geti (v := M 1 6) i_24_9 f_24_31 g_1 rfl (rfl) rfl ?_
      obtain ⟨q3, h⟩ := h
      refine x_iastore i_24_12 g_12 rfl q3 ?_
      refine x_aload_n i_24_13 rfl rfl ?_
      refine x_dup i_24_14 rfl rfl ?_
      refine x_geti (v := M 1 7) i_24_15 f_24_35 g_1 rfl (pm_get_c (by decide) rfl) rfl ?_
      refine x_iconst i_24_18 (by decide) rfl ?_
      obtain ⟨q4, h⟩ := h
      refine x_iadd i_24_19 rfl q4 ?_
      refine x_puti i_24_20 f_24_35 g_1 rfl rfl ?_
      refine x_aload_n i_24_23 rfl rfl ?_
      refine x_iconst i_24_24 (by decide) rfl ?_
      refine x_iconst i_24_25 (by decide) rfl ?_
      refine x_iconst i_24_26 (by decide) rfl ?_
      refine x_callv (as := [.inl (-1), .inl 0, .inl 0]) (rest := []) i_24_27 k_24_38 rfl rfl rfl g_1 (Nat.le_of_ble_eq_true rfl) m_25 rfl ?_
      refine x_aload_n i_25_0 rfl rfl ?_
      refine x_geti (v := M 1 6) i_25_1 f_25_31 g_1 rfl (pm_get_j (by decide) (pm_get_c (by decide) rfl)) rfl ?_
      refine x_istore i_25_4 (Nat.le_of_ble_eq_true rfl) rfl rfl ?_
      refine x_aload_n i_25_6 rfl rfl ?_
      refine x_getr i_25_7 f_25_9 g_1 rfl rfl ?_
      refine x_iload i_25_10 rfl rfl ?_
      refine x_iload_n i_25_12 rfl rfl ?_
      obtain ⟨q5, h⟩ := h
      refine x_iastore i_25_13 g_7 rfl q5 ?_
      refine x_aload_n i_25_14 rfl rfl ?_
      refine x_getr i_25_15 f_25_15 g_1 rfl rfl ?_
      refine x_iload i_25_18 rfl rfl ?_
      refine x_iload_n i_25_20 rfl rfl ?_
      refine x_iastore i_25_21 g_8 rfl q5 ?_
      refine x_aload_n i_25_22 rfl rfl ?_
      refine x_getr i_25_23 f_25_18 g_1 rfl rfl ?_
      refine x_iload i_25_26 rfl rfl ?_
      refine x_iload_n i_25_28 rfl rfl ?_
      refine x_iastore i_25_29 g_9 rfl q5 ?_
      refine x_aload_n i_25_30 rfl rfl ?_
      refine x_dup i_25_31 rfl rfl ?_
      refine x_geti (v := M 1 6) i_25_32 f_25_31 g_1 rfl (pm_get_c (by decide) (pm_get_c (by decide) (pm_get_c (by decide) (pm_get_j (by decide) (pm_get_c (by decide) rfl))))) rfl ?_
      refine x_iconst i_25_35 (by decide) rfl ?_
      obtain ⟨q6, h⟩ := h
      refine x_iadd i_25_36 rfl q6 ?_
      refine x_puti i_25_37 f_25_31 g_1 rfl rfl ?_
      refine x_iload i_25_40 rfl rfl ?_
      refine x_ireti i_25_42 r_25 ?_
      refine x_bki rfl ?_
      refine x_ireti i_24_30 r_24 ?_
      refine x_bki rfl ?_
      refine x_ireti i_0_33 r_0 ?_
      refine x_bki rfl ?_
      refine x_i2l i_86_6 rfl ?_
      refine x_lastore i_86_7 g_34 rfl (by decide) ?_
      refine x_goto i_86_8 rfl ?_
      refine x_iconst i_86_14 (by decide) rfl ?_
      exact x_ireti i_86_15 r_86 h
    · replace h := h.2 c2
      obtain ⟨q7, h⟩ := h
      refine x_throw i_18_13 t_18_49 q7 ?_
      refine x_bkt rfl ?_
      refine x_bkc (h0 := 11) (nx := 12) (i := 2) rfl rfl ?_
      refine x_iconst i_86_12 (by decide) rfl ?_
      exact x_ireti i_86_13 r_86 h
  · replace h := h.2 c1
    obtain ⟨q8, h⟩ := h
    refine x_throw i_0_12 t_0_49 q8 ?_
    refine x_bkc (h0 := 11) (nx := 12) (i := 2) rfl rfl ?_
    refine x_iconst i_86_12 (by decide) rfl ?_
    exact x_ireti i_86_13 r_86 h
/-! GateBenchLaw.not at 0 -/
theorem s_87_0 {L : Nat} {M : pm_M} {Q : pm_P} {a1 : Int}
    (h : ((a1 < 0 → (1 ≤ M 99 0) ∧ Q (.inl (some (.inl 1))) (pm_set M 99 0 (M 99 0 - 1))) ∧ (¬ (a1 < 0) → ((a1 < M 1 6 → ((¬ M 1 6 = 2000 → (pm_R (2 * a1)) ∧ (0 ≤ M 1 6 ∧ M 1 6 < 2000) ∧ (pm_R (M 1 6 + 1)) ∧ Q (.inl (some (.inl 0))) (pm_set (pm_set (pm_set (pm_set (pm_set M 7 (M 1 6) (2 * a1)) 8 (M 1 6) 0) 9 (M 1 6) 1) 1 6 (M 1 6 + 1)) 34 0 (M 1 6))) ∧ (¬ (¬ M 1 6 = 2000) → (1 ≤ M 99 0) ∧ Q (.inl (some (.inl 2))) (pm_set M 99 0 (M 99 0 - 1))))) ∧ (¬ (a1 < M 1 6) → (1 ≤ M 99 0) ∧ Q (.inl (some (.inl 1))) (pm_set M 99 0 (M 99 0 - 1))))))) :
    pm_X L (87, 0, [some (.inr (.inl 0)), some (.inl a1), some (.inr (.inl 34)), none], [], M) Q := by
  refine x_aload_n i_87_0 rfl rfl ?_
  refine x_iconst i_87_1 (by decide) rfl ?_
  refine x_aload_n i_87_2 rfl rfl ?_
  refine x_iload_n i_87_3 rfl rfl ?_
  refine x_callv (as := [.inl a1]) (rest := [.inl 0, .inr (.inl 34)]) i_87_4 k_87_15 rfl rfl rfl g_0 (Nat.le_of_ble_eq_true rfl) m_1 rfl ?_
  refine x_aload_n i_1_0 rfl rfl ?_
  refine x_iload_n i_1_1 rfl rfl ?_
  refine x_callv (as := [.inl a1]) (rest := []) i_1_2 k_1_63 rfl rfl rfl g_0 (Nat.le_of_ble_eq_true rfl) m_17 rfl ?_
  refine x_iload_n i_17_0 rfl rfl ?_
  refine x_if (C := a1 < 0) i_17_1 rfl Iff.rfl rfl ⟨fun c1 => ?_, fun c1 => ?_⟩
  · replace h := h.1 c1
    obtain ⟨q2, h⟩ := h
    refine x_throw i_17_15 t_17_101 q2 ?_
    refine x_bkt rfl ?_
    refine x_bkc (h0 := 12) (nx := 13) (i := 3) rfl rfl ?_
    refine x_iconst i_87_13 (by decide) rfl ?_
    exact x_ireti i_87_14 r_87 h
  · replace h := h.2 c1
    refine x_iload_n i_17_4 rfl rfl ?_
    refine x_aload_n i_17_5 rfl rfl ?_
    refine x_getr i_17_6 f_17_12 g_0 rfl rfl ?_
    refine x_geti (v := M 1 6) i_17_9 f_17_126 g_1 rfl (rfl) rfl ?_
    refine x_icmp (C := a1 < M 1 6) i_17_12 rfl Iff.rfl rfl ⟨fun c3 => ?_, fun c3 => ?_⟩
    · replace h := h.1 c3
      refine x_ret i_17_25 r_17 ?_
      refine x_bkv rfl ?_
      refine x_aload_n i_1_5 rfl rfl ?_
      refine x_callv (as := []) (rest := []) i_1_6 k_1_56 rfl rfl rfl g_0 (Nat.le_of_ble_eq_true rfl) m_18 rfl ?_
      refine x_aload_n i_18_0 rfl rfl ?_
      refine x_getr i_18_1 f_18_12 g_0 rfl rfl ?_
      refine x_geti (v := M 1 6) i_18_4 f_18_126 g_1 rfl (rfl) rfl ?_
      refine x_sipush i_18_7 (by decide) rfl ?_
      refine x_icmp (C := ¬ M 1 6 = 2000) i_18_10 rfl Iff.rfl rfl ⟨fun c4 => ?_, fun c4 => ?_⟩
      · replace h := h.1 c4
        refine x_ret i_18_23 r_18 ?_
        refine x_bkv rfl ?_
        refine x_aload_n i_1_9 rfl rfl ?_
        refine x_getr i_1_10 f_1_12 g_0 rfl rfl ?_
        refine x_iload_n i_1_13 rfl rfl ?_
        refine x_calls (as := [.inl a1]) (rest := [.inr (.inl 1)]) i_1_14 k_1_67 rfl rfl rfl (Nat.le_of_ble_eq_true rfl) m_14 rfl ?_
        refine x_iconst i_14_0 (by decide) rfl ?_
        refine x_iload_n i_14_1 rfl rfl ?_
        obtain ⟨q5, h⟩ := h
        refine x_imul i_14_2 rfl q5 ?_
        refine x_ireti i_14_3 r_14 ?_
        refine x_bki rfl ?_
        refine x_iconst i_1_17 (by decide) rfl ?_
        refine x_iconst i_1_18 (by decide) rfl ?_
        refine x_callv (as := [.inl (2 * a1), .inl 0, .inl 1]) (rest := []) i_1_19 k_1_71 rfl rfl rfl g_1 (Nat.le_of_ble_eq_true rfl) m_25 rfl ?_
        refine x_aload_n i_25_0 rfl rfl ?_
        refine x_geti (v := M 1 6) i_25_1 f_25_31 g_1 rfl (rfl) rfl ?_
        refine x_istore i_25_4 (Nat.le_of_ble_eq_true rfl) rfl rfl ?_
        refine x_aload_n i_25_6 rfl rfl ?_
        refine x_getr i_25_7 f_25_9 g_1 rfl rfl ?_
        refine x_iload i_25_10 rfl rfl ?_
        refine x_iload_n i_25_12 rfl rfl ?_
        obtain ⟨q6, h⟩ := h
        refine x_iastore i_25_13 g_7 rfl q6 ?_
        refine x_aload_n i_25_14 rfl rfl ?_
        refine x_getr i_25_15 f_25_15 g_1 rfl rfl ?_
        refine x_iload i_25_18 rfl rfl ?_
        refine x_iload_n i_25_20 rfl rfl ?_
        refine x_iastore i_25_21 g_8 rfl q6 ?_
        refine x_aload_n i_25_22 rfl rfl ?_
        refine x_getr i_25_23 f_25_18 g_1 rfl rfl ?_
        refine x_iload i_25_26 rfl rfl ?_
        refine x_iload_n i_25_28 rfl rfl ?_
        refine x_iastore i_25_29 g_9 rfl q6 ?_
        refine x_aload_n i_25_30 rfl rfl ?_
        refine x_dup i_25_31 rfl rfl ?_
        refine x_geti (v := M 1 6) i_25_32 f_25_31 g_1 rfl (pm_get_c (by decide) (pm_get_c (by decide) (pm_get_c (by decide) rfl))) rfl ?_
        refine x_iconst i_25_35 (by decide) rfl ?_
        obtain ⟨q7, h⟩ := h
        refine x_iadd i_25_36 rfl q7 ?_
        refine x_puti i_25_37 f_25_31 g_1 rfl rfl ?_
        refine x_iload i_25_40 rfl rfl ?_
        refine x_ireti i_25_42 r_25 ?_
        refine x_bki rfl ?_
        refine x_ireti i_1_22 r_1 ?_
        refine x_bki rfl ?_
        refine x_i2l i_87_7 rfl ?_
        refine x_lastore i_87_8 g_34 rfl (by decide) ?_
        refine x_goto i_87_9 rfl ?_
        refine x_iconst i_87_18 (by decide) rfl ?_
        exact x_ireti i_87_19 r_87 h
      · replace h := h.2 c4
        obtain ⟨q8, h⟩ := h
        refine x_throw i_18_13 t_18_49 q8 ?_
        refine x_bkt rfl ?_
        refine x_bkc (h0 := 15) (nx := 16) (i := 3) rfl rfl ?_
        refine x_iconst i_87_16 (by decide) rfl ?_
        exact x_ireti i_87_17 r_87 h
    · replace h := h.2 c3
      obtain ⟨q9, h⟩ := h
      refine x_throw i_17_15 t_17_101 q9 ?_
      refine x_bkt rfl ?_
      refine x_bkc (h0 := 12) (nx := 13) (i := 3) rfl rfl ?_
      refine x_iconst i_87_13 (by decide) rfl ?_
      exact x_ireti i_87_14 r_87 h
/-! GateBenchLaw.join at 0 -/
theorem s_88_0 {L : Nat} {M : pm_M} {Q : pm_P} {a1 a2 a3 : Int}
    (h : ((a2 < 0 → (1 ≤ M 99 0) ∧ Q (.inl (some (.inl 1))) (pm_set M 99 0 (M 99 0 - 1))) ∧ (¬ (a2 < 0) → ((a2 < M 1 6 → ((a3 < 0 → (1 ≤ M 99 0) ∧ Q (.inl (some (.inl 1))) (pm_set M 99 0 (M 99 0 - 1))) ∧ (¬ (a3 < 0) → ((a3 < M 1 6 → ((a1 = 0 → ((¬ M 1 6 = 2000 → ((¬ a1 = 0 → ((¬ a1 = 1 → (pm_R (2 * a2)) ∧ (pm_R (2 * a3)) ∧ (0 ≤ M 1 6 ∧ M 1 6 < 2000) ∧ (pm_R (M 1 6 + 1)) ∧ Q (.inl (some (.inl 0))) (pm_set (pm_set (pm_set (pm_set (pm_set M 7 (M 1 6) (2 * a2)) 8 (M 1 6) (pm_op (2 * a3))) 9 (M 1 6) (2 * a3)) 1 6 (M 1 6 + 1)) 34 0 (M 1 6))) ∧ (¬ (¬ a1 = 1) → (pm_R (2 * a2)) ∧ (pm_R (2 * a3)) ∧ (0 ≤ M 1 6 ∧ M 1 6 < 2000) ∧ (pm_R (M 1 6 + 1)) ∧ Q (.inl (some (.inl 0))) (pm_set (pm_set (pm_set (pm_set (pm_set M 7 (M 1 6) (2 * a2)) 8 (M 1 6) 1) 9 (M 1 6) (2 * a3)) 1 6 (M 1 6 + 1)) 34 0 (M 1 6))))) ∧ (¬ (¬ a1 = 0) → (pm_R (2 * a2)) ∧ (pm_R (2 * a3)) ∧ (0 ≤ M 1 6 ∧ M 1 6 < 2000) ∧ (pm_R (M 1 6 + 1)) ∧ Q (.inl (some (.inl 0))) (pm_set (pm_set (pm_set (pm_set (pm_set M 7 (M 1 6) (2 * a2)) 8 (M 1 6) (2 * a3)) 9 (M 1 6) 0) 1 6 (M 1 6 + 1)) 34 0 (M 1 6))))) ∧ (¬ (¬ M 1 6 = 2000) → (1 ≤ M 99 0) ∧ Q (.inl (some (.inl 3))) (pm_set M 99 0 (M 99 0 - 1))))) ∧ (¬ (a1 = 0) → ((a1 = 1 → ((¬ M 1 6 = 2000 → ((¬ a1 = 1 → (pm_R (2 * a2)) ∧ (pm_R (2 * a3)) ∧ (0 ≤ M 1 6 ∧ M 1 6 < 2000) ∧ (pm_R (M 1 6 + 1)) ∧ Q (.inl (some (.inl 0))) (pm_set (pm_set (pm_set (pm_set (pm_set M 7 (M 1 6) (2 * a2)) 8 (M 1 6) (pm_op (2 * a3))) 9 (M 1 6) (2 * a3)) 1 6 (M 1 6 + 1)) 34 0 (M 1 6))) ∧ (¬ (¬ a1 = 1) → (pm_R (2 * a2)) ∧ (pm_R (2 * a3)) ∧ (0 ≤ M 1 6 ∧ M 1 6 < 2000) ∧ (pm_R (M 1 6 + 1)) ∧ Q (.inl (some (.inl 0))) (pm_set (pm_set (pm_set (pm_set (pm_set M 7 (M 1 6) (2 * a2)) 8 (M 1 6) 1) 9 (M 1 6) (2 * a3)) 1 6 (M 1 6 + 1)) 34 0 (M 1 6))))) ∧ (¬ (¬ M 1 6 = 2000) → (1 ≤ M 99 0) ∧ Q (.inl (some (.inl 3))) (pm_set M 99 0 (M 99 0 - 1))))) ∧ (¬ (a1 = 1) → ((a1 = 2 → ((¬ M 1 6 = 2000 → (pm_R (2 * a2)) ∧ (pm_R (2 * a3)) ∧ (0 ≤ M 1 6 ∧ M 1 6 < 2000) ∧ (pm_R (M 1 6 + 1)) ∧ Q (.inl (some (.inl 0))) (pm_set (pm_set (pm_set (pm_set (pm_set M 7 (M 1 6) (2 * a2)) 8 (M 1 6) (pm_op (2 * a3))) 9 (M 1 6) (2 * a3)) 1 6 (M 1 6 + 1)) 34 0 (M 1 6))) ∧ (¬ (¬ M 1 6 = 2000) → (1 ≤ M 99 0) ∧ Q (.inl (some (.inl 3))) (pm_set M 99 0 (M 99 0 - 1))))) ∧ (¬ (a1 = 2) → (1 ≤ M 99 0) ∧ Q (.inl (some (.inl 2))) (pm_set M 99 0 (M 99 0 - 1))))))))) ∧ (¬ (a3 < M 1 6) → (1 ≤ M 99 0) ∧ Q (.inl (some (.inl 1))) (pm_set M 99 0 (M 99 0 - 1))))))) ∧ (¬ (a2 < M 1 6) → (1 ≤ M 99 0) ∧ Q (.inl (some (.inl 1))) (pm_set M 99 0 (M 99 0 - 1))))))) :
    pm_X L (88, 0, [some (.inr (.inl 0)), some (.inl a1), some (.inl a2), some (.inl a3), some (.inr (.inl 34)), none], [], M) Q := by
  refine x_aload i_88_0 rfl rfl ?_
  refine x_iconst i_88_2 (by decide) rfl ?_
  refine x_aload_n i_88_3 rfl rfl ?_
  refine x_iload_n i_88_4 rfl rfl ?_
  refine x_iload_n i_88_5 rfl rfl ?_
  refine x_iload_n i_88_6 rfl rfl ?_
  refine x_callv (as := [.inl a1, .inl a2, .inl a3]) (rest := [.inl 0, .inr (.inl 34)]) i_88_7 k_88_21 rfl rfl rfl g_0 (Nat.le_of_ble_eq_true rfl) m_2 rfl ?_
  refine x_aload_n i_2_0 rfl rfl ?_
  refine x_iload_n i_2_1 rfl rfl ?_
  refine x_callv (as := [.inl a2]) (rest := []) i_2_2 k_2_63 rfl rfl rfl g_0 (Nat.le_of_ble_eq_true rfl) m_17 rfl ?_
  refine x_iload_n i_17_0 rfl rfl ?_
  refine x_if (C := a2 < 0) i_17_1 rfl Iff.rfl rfl ⟨fun c1 => ?_, fun c1 => ?_⟩
  · replace h := h.1 c1
    obtain ⟨q2, h⟩ := h
    refine x_throw i_17_15 t_17_101 q2 ?_
    refine x_bkt rfl ?_
    refine x_bkc (h0 := 15) (nx := 17) (i := 5) rfl rfl ?_
    refine x_iconst i_88_17 (by decide) rfl ?_
    exact x_ireti i_88_18 r_88 h
  · replace h := h.2 c1
    refine x_iload_n i_17_4 rfl rfl ?_
    refine x_aload_n i_17_5 rfl rfl ?_
    refine x_getr i_17_6 f_17_12 g_0 rfl rfl ?_
    refine x_geti (v := M 1 6) i_17_9 f_17_126 g_1 rfl (rfl) rfl ?_
    refine x_icmp (C := a2 < M 1 6) i_17_12 rfl Iff.rfl rfl ⟨fun c3 => ?_, fun c3 => ?_⟩
    · replace h := h.1 c3
      refine x_ret i_17_25 r_17 ?_
      refine x_bkv rfl ?_
      refine x_aload_n i_2_5 rfl rfl ?_
      refine x_iload_n i_2_6 rfl rfl ?_
      refine x_callv (as := [.inl a3]) (rest := []) i_2_7 k_2_63 rfl rfl rfl g_0 (Nat.le_of_ble_eq_true rfl) m_17 rfl ?_
      refine x_iload_n i_17_0 rfl rfl ?_
      refine x_if (C := a3 < 0) i_17_1 rfl Iff.rfl rfl ⟨fun c4 => ?_, fun c4 => ?_⟩
      · replace h := h.1 c4
        obtain ⟨q5, h⟩ := h
        refine x_throw i_17_15 t_17_101 q5 ?_
        refine x_bkt rfl ?_
        refine x_bkc (h0 := 15) (nx := 17) (i := 5) rfl rfl ?_
        refine x_iconst i_88_17 (by decide) rfl ?_
        exact x_ireti i_88_18 r_88 h
      · replace h := h.2 c4
        refine x_iload_n i_17_4 rfl rfl ?_
        refine x_aload_n i_17_5 rfl rfl ?_
        refine x_getr i_17_6 f_17_12 g_0 rfl rfl ?_
        refine x_geti (v := M 1 6) i_17_9 f_17_126 g_1 rfl (rfl) rfl ?_
        refine x_icmp (C := a3 < M 1 6) i_17_12 rfl Iff.rfl rfl ⟨fun c6 => ?_, fun c6 => ?_⟩
        · replace h := h.1 c6
          refine x_ret i_17_25 r_17 ?_
          refine x_bkv rfl ?_
          refine x_iload_n i_2_10 rfl rfl ?_
          refine x_if (C := a1 = 0) i_2_11 rfl Iff.rfl rfl ⟨fun c7 => ?_, fun c7 => ?_⟩
          · replace h := h.1 c7
            refine x_aload_n i_2_34 rfl rfl ?_
            refine x_callv (as := []) (rest := []) i_2_35 k_2_56 rfl rfl rfl g_0 (Nat.le_of_ble_eq_true rfl) m_18 rfl ?_
            refine x_aload_n i_18_0 rfl rfl ?_
            refine x_getr i_18_1 f_18_12 g_0 rfl rfl ?_
            refine x_geti (v := M 1 6) i_18_4 f_18_126 g_1 rfl (rfl) rfl ?_
            refine x_sipush i_18_7 (by decide) rfl ?_
            refine x_icmp (C := ¬ M 1 6 = 2000) i_18_10 rfl Iff.rfl rfl ⟨fun c8 => ?_, fun c8 => ?_⟩
            · replace h := h.1 c8
              refine x_ret i_18_23 r_18 ?_
              refine x_bkv rfl ?_
              refine x_iload_n i_2_38 rfl rfl ?_
              refine x_if (C := ¬ a1 = 0) i_2_39 rfl Iff.rfl rfl ⟨fun c9 => ?_, fun c9 => ?_⟩
              · replace h := h.1 c9
                refine x_iload_n i_2_59 rfl rfl ?_
                refine x_iconst i_2_60 (by decide) rfl ?_
                refine x_icmp (C := ¬ a1 = 1) i_2_61 rfl Iff.rfl rfl ⟨fun c10 => ?_, fun c10 => ?_⟩
                · replace h := h.1 c10
                  refine x_aload_n i_2_81 rfl rfl ?_
                  refine x_getr i_2_82 f_2_12 g_0 rfl rfl ?_
                  refine x_iload_n i_2_85 rfl rfl ?_
                  refine x_calls (as := [.inl a2]) (rest := [.inr (.inl 1)]) i_2_86 k_2_67 rfl rfl rfl (Nat.le_of_ble_eq_true rfl) m_14 rfl ?_
                  refine x_iconst i_14_0 (by decide) rfl ?_
                  refine x_iload_n i_14_1 rfl rfl ?_
                  obtain ⟨q11, h⟩ := h
                  refine x_imul i_14_2 rfl q11 ?_
                  refine x_ireti i_14_3 r_14 ?_
                  refine x_bki rfl ?_
                  refine x_iload_n i_2_89 rfl rfl ?_
                  refine x_calls (as := [.inl a3]) (rest := [.inl (2 * a2), .inr (.inl 1)]) i_2_90 k_2_67 rfl rfl rfl (Nat.le_of_ble_eq_true rfl) m_14 rfl ?_
                  refine x_iconst i_14_0 (by decide) rfl ?_
                  refine x_iload_n i_14_1 rfl rfl ?_
                  obtain ⟨q12, h⟩ := h
                  refine x_imul i_14_2 rfl q12 ?_
                  refine x_ireti i_14_3 r_14 ?_
                  refine x_bki rfl ?_
                  refine x_calls (as := [.inl (2 * a3)]) (rest := [.inl (2 * a2), .inr (.inl 1)]) i_2_93 k_2_80 rfl rfl rfl (Nat.le_of_ble_eq_true rfl) m_15 rfl ?_
                  refine x_iload_n i_15_0 rfl rfl ?_
                  refine x_iconst i_15_1 (by decide) rfl ?_
                  refine x_ixor i_15_2 rfl ?_
                  refine x_ireti i_15_3 r_15 ?_
                  refine x_bki rfl ?_
                  refine x_iload_n i_2_96 rfl rfl ?_
                  refine x_calls (as := [.inl a3]) (rest := [.inl (pm_op (2 * a3)), .inl (2 * a2), .inr (.inl 1)]) i_2_97 k_2_67 rfl rfl rfl (Nat.le_of_ble_eq_true rfl) m_14 rfl ?_
                  refine x_iconst i_14_0 (by decide) rfl ?_
                  refine x_iload_n i_14_1 rfl rfl ?_
                  refine x_imul i_14_2 rfl q12 ?_
                  refine x_ireti i_14_3 r_14 ?_
                  refine x_bki rfl ?_
                  refine x_callv (as := [.inl (2 * a2), .inl (pm_op (2 * a3)), .inl (2 * a3)]) (rest := []) i_2_100 k_2_71 rfl rfl rfl g_1 (Nat.le_of_ble_eq_true rfl) m_25 rfl ?_
                  refine x_aload_n i_25_0 rfl rfl ?_
                  refine x_geti (v := M 1 6) i_25_1 f_25_31 g_1 rfl (rfl) rfl ?_
                  refine x_istore i_25_4 (Nat.le_of_ble_eq_true rfl) rfl rfl ?_
                  refine x_aload_n i_25_6 rfl rfl ?_
                  refine x_getr i_25_7 f_25_9 g_1 rfl rfl ?_
                  refine x_iload i_25_10 rfl rfl ?_
                  refine x_iload_n i_25_12 rfl rfl ?_
                  obtain ⟨q13, h⟩ := h
                  refine x_iastore i_25_13 g_7 rfl q13 ?_
                  refine x_aload_n i_25_14 rfl rfl ?_
                  refine x_getr i_25_15 f_25_15 g_1 rfl rfl ?_
                  refine x_iload i_25_18 rfl rfl ?_
                  refine x_iload_n i_25_20 rfl rfl ?_
                  refine x_iastore i_25_21 g_8 rfl q13 ?_
                  refine x_aload_n i_25_22 rfl rfl ?_
                  refine x_getr i_25_23 f_25_18 g_1 rfl rfl ?_
                  refine x_iload i_25_26 rfl rfl ?_
                  refine x_iload_n i_25_28 rfl rfl ?_
                  refine x_iastore i_25_29 g_9 rfl q13 ?_
                  refine x_aload_n i_25_30 rfl rfl ?_
                  refine x_dup i_25_31 rfl rfl ?_
                  refine x_geti (v := M 1 6) i_25_32 f_25_31 g_1 rfl (pm_get_c (by decide) (pm_get_c (by decide) (pm_get_c (by decide) rfl))) rfl ?_
                  refine x_iconst i_25_35 (by decide) rfl ?_
                  obtain ⟨q14, h⟩ := h
                  refine x_iadd i_25_36 rfl q14 ?_
                  refine x_puti i_25_37 f_25_31 g_1 rfl rfl ?_
                  refine x_iload i_25_40 rfl rfl ?_
                  refine x_ireti i_25_42 r_25 ?_
                  refine x_bki rfl ?_
                  refine x_ireti i_2_103 r_2 ?_
                  refine x_bki rfl ?_
                  refine x_i2l i_88_10 rfl ?_
                  refine x_lastore i_88_11 g_34 rfl (by decide) ?_
                  refine x_goto i_88_12 rfl ?_
                  refine x_iconst i_88_27 (by decide) rfl ?_
                  exact x_ireti i_88_28 r_88 h
                · replace h := h.2 c10
                  refine x_aload_n i_2_64 rfl rfl ?_
                  refine x_getr i_2_65 f_2_12 g_0 rfl rfl ?_
                  refine x_iload_n i_2_68 rfl rfl ?_
                  refine x_calls (as := [.inl a2]) (rest := [.inr (.inl 1)]) i_2_69 k_2_67 rfl rfl rfl (Nat.le_of_ble_eq_true rfl) m_14 rfl ?_
                  refine x_iconst i_14_0 (by decide) rfl ?_
                  refine x_iload_n i_14_1 rfl rfl ?_
                  obtain ⟨q15, h⟩ := h
                  refine x_imul i_14_2 rfl q15 ?_
                  refine x_ireti i_14_3 r_14 ?_
                  refine x_bki rfl ?_
                  refine x_iconst i_2_72 (by decide) rfl ?_
                  refine x_iload_n i_2_73 rfl rfl ?_
                  refine x_calls (as := [.inl a3]) (rest := [.inl 1, .inl (2 * a2), .inr (.inl 1)]) i_2_74 k_2_67 rfl rfl rfl (Nat.le_of_ble_eq_true rfl) m_14 rfl ?_
                  refine x_iconst i_14_0 (by decide) rfl ?_
                  refine x_iload_n i_14_1 rfl rfl ?_
                  obtain ⟨q16, h⟩ := h
                  refine x_imul i_14_2 rfl q16 ?_
                  refine x_ireti i_14_3 r_14 ?_
                  refine x_bki rfl ?_
                  refine x_callv (as := [.inl (2 * a2), .inl 1, .inl (2 * a3)]) (rest := []) i_2_77 k_2_71 rfl rfl rfl g_1 (Nat.le_of_ble_eq_true rfl) m_25 rfl ?_
                  refine x_aload_n i_25_0 rfl rfl ?_
                  refine x_geti (v := M 1 6) i_25_1 f_25_31 g_1 rfl (rfl) rfl ?_
                  refine x_istore i_25_4 (Nat.le_of_ble_eq_true rfl) rfl rfl ?_
                  refine x_aload_n i_25_6 rfl rfl ?_
                  refine x_getr i_25_7 f_25_9 g_1 rfl rfl ?_
                  refine x_iload i_25_10 rfl rfl ?_
                  refine x_iload_n i_25_12 rfl rfl ?_
                  obtain ⟨q17, h⟩ := h
                  refine x_iastore i_25_13 g_7 rfl q17 ?_
                  refine x_aload_n i_25_14 rfl rfl ?_
                  refine x_getr i_25_15 f_25_15 g_1 rfl rfl ?_
                  refine x_iload i_25_18 rfl rfl ?_
                  refine x_iload_n i_25_20 rfl rfl ?_
                  refine x_iastore i_25_21 g_8 rfl q17 ?_
                  refine x_aload_n i_25_22 rfl rfl ?_
                  refine x_getr i_25_23 f_25_18 g_1 rfl rfl ?_
                  refine x_iload i_25_26 rfl rfl ?_
                  refine x_iload_n i_25_28 rfl rfl ?_
                  refine x_iastore i_25_29 g_9 rfl q17 ?_
                  refine x_aload_n i_25_30 rfl rfl ?_
                  refine x_dup i_25_31 rfl rfl ?_
                  refine x_geti (v := M 1 6) i_25_32 f_25_31 g_1 rfl (pm_get_c (by decide) (pm_get_c (by decide) (pm_get_c (by decide) rfl))) rfl ?_
                  refine x_iconst i_25_35 (by decide) rfl ?_
                  obtain ⟨q18, h⟩ := h
                  refine x_iadd i_25_36 rfl q18 ?_
                  refine x_puti i_25_37 f_25_31 g_1 rfl rfl ?_
                  refine x_iload i_25_40 rfl rfl ?_
                  refine x_ireti i_25_42 r_25 ?_
                  refine x_bki rfl ?_
                  refine x_ireti i_2_80 r_2 ?_
                  refine x_bki rfl ?_
                  refine x_i2l i_88_10 rfl ?_
                  refine x_lastore i_88_11 g_34 rfl (by decide) ?_
                  refine x_goto i_88_12 rfl ?_
                  refine x_iconst i_88_27 (by decide) rfl ?_
                  exact x_ireti i_88_28 r_88 h
              · replace h := h.2 c9
                refine x_aload_n i_2_42 rfl rfl ?_
                refine x_getr i_2_43 f_2_12 g_0 rfl rfl ?_
                refine x_iload_n i_2_46 rfl rfl ?_
                refine x_calls (as := [.inl a2]) (rest := [.inr (.inl 1)]) i_2_47 k_2_67 rfl rfl rfl (Nat.le_of_ble_eq_true rfl) m_14 rfl ?_
                refine x_iconst i_14_0 (by decide) rfl ?_
                refine x_iload_n i_14_1 rfl rfl ?_
                obtain ⟨q19, h⟩ := h
                refine x_imul i_14_2 rfl q19 ?_
                refine x_ireti i_14_3 r_14 ?_
                refine x_bki rfl ?_
                refine x_iload_n i_2_50 rfl rfl ?_
                refine x_calls (as := [.inl a3]) (rest := [.inl (2 * a2), .inr (.inl 1)]) i_2_51 k_2_67 rfl rfl rfl (Nat.le_of_ble_eq_true rfl) m_14 rfl ?_
                refine x_iconst i_14_0 (by decide) rfl ?_
                refine x_iload_n i_14_1 rfl rfl ?_
                obtain ⟨q20, h⟩ := h
                refine x_imul i_14_2 rfl q20 ?_
                refine x_ireti i_14_3 r_14 ?_
                refine x_bki rfl ?_
                refine x_iconst i_2_54 (by decide) rfl ?_
                refine x_callv (as := [.inl (2 * a2), .inl (2 * a3), .inl 0]) (rest := []) i_2_55 k_2_71 rfl rfl rfl g_1 (Nat.le_of_ble_eq_true rfl) m_25 rfl ?_
                refine x_aload_n i_25_0 rfl rfl ?_
                refine x_geti (v := M 1 6) i_25_1 f_25_31 g_1 rfl (rfl) rfl ?_
                refine x_istore i_25_4 (Nat.le_of_ble_eq_true rfl) rfl rfl ?_
                refine x_aload_n i_25_6 rfl rfl ?_
                refine x_getr i_25_7 f_25_9 g_1 rfl rfl ?_
                refine x_iload i_25_10 rfl rfl ?_
                refine x_iload_n i_25_12 rfl rfl ?_
                obtain ⟨q21, h⟩ := h
                refine x_iastore i_25_13 g_7 rfl q21 ?_
                refine x_aload_n i_25_14 rfl rfl ?_
                refine x_getr i_25_15 f_25_15 g_1 rfl rfl ?_
                refine x_iload i_25_18 rfl rfl ?_
                refine x_iload_n i_25_20 rfl rfl ?_
                refine x_iastore i_25_21 g_8 rfl q21 ?_
                refine x_aload_n i_25_22 rfl rfl ?_
                refine x_getr i_25_23 f_25_18 g_1 rfl rfl ?_
                refine x_iload i_25_26 rfl rfl ?_
                refine x_iload_n i_25_28 rfl rfl ?_
                refine x_iastore i_25_29 g_9 rfl q21 ?_
                refine x_aload_n i_25_30 rfl rfl ?_
                refine x_dup i_25_31 rfl rfl ?_
                refine x_geti (v := M 1 6) i_25_32 f_25_31 g_1 rfl (pm_get_c (by decide) (pm_get_c (by decide) (pm_get_c (by decide) rfl))) rfl ?_
                refine x_iconst i_25_35 (by decide) rfl ?_
                obtain ⟨q22, h⟩ := h
                refine x_iadd i_25_36 rfl q22 ?_
                refine x_puti i_25_37 f_25_31 g_1 rfl rfl ?_
                refine x_iload i_25_40 rfl rfl ?_
                refine x_ireti i_25_42 r_25 ?_
                refine x_bki rfl ?_
                refine x_ireti i_2_58 r_2 ?_
                refine x_bki rfl ?_
                refine x_i2l i_88_10 rfl ?_
                refine x_lastore i_88_11 g_34 rfl (by decide) ?_
                refine x_goto i_88_12 rfl ?_
                refine x_iconst i_88_27 (by decide) rfl ?_
                exact x_ireti i_88_28 r_88 h
            · replace h := h.2 c8
              obtain ⟨q23, h⟩ := h
              refine x_throw i_18_13 t_18_49 q23 ?_
              refine x_bkt rfl ?_
              refine x_bkc (h0 := 23) (nx := 25) (i := 5) rfl rfl ?_
              refine x_iconst i_88_25 (by decide) rfl ?_
              exact x_ireti i_88_26 r_88 h
          · replace h := h.2 c7
            refine x_iload_n i_2_14 rfl rfl ?_
            refine x_iconst i_2_15 (by decide) rfl ?_
            refine x_icmp (C := a1 = 1) i_2_16 rfl Iff.rfl rfl ⟨fun c24 => ?_, fun c24 => ?_⟩
            · replace h := h.1 c24
              refine x_aload_n i_2_34 rfl rfl ?_
              refine x_callv (as := []) (rest := []) i_2_35 k_2_56 rfl rfl rfl g_0 (Nat.le_of_ble_eq_true rfl) m_18 rfl ?_
              refine x_aload_n i_18_0 rfl rfl ?_
              refine x_getr i_18_1 f_18_12 g_0 rfl rfl ?_
              refine x_geti (v := M 1 6) i_18_4 f_18_126 g_1 rfl (rfl) rfl ?_
              refine x_sipush i_18_7 (by decide) rfl ?_
              refine x_icmp (C := ¬ M 1 6 = 2000) i_18_10 rfl Iff.rfl rfl ⟨fun c25 => ?_, fun c25 => ?_⟩
              · replace h := h.1 c25
                refine x_ret i_18_23 r_18 ?_
                refine x_bkv rfl ?_
                refine x_iload_n i_2_38 rfl rfl ?_
                refine x_ifT i_2_39 rfl c7 ?_
                refine x_iload_n i_2_59 rfl rfl ?_
                refine x_iconst i_2_60 (by decide) rfl ?_
                refine x_icmp (C := ¬ a1 = 1) i_2_61 rfl Iff.rfl rfl ⟨fun c26 => ?_, fun c26 => ?_⟩
                · replace h := h.1 c26
                  refine x_aload_n i_2_81 rfl rfl ?_
                  refine x_getr i_2_82 f_2_12 g_0 rfl rfl ?_
                  refine x_iload_n i_2_85 rfl rfl ?_
                  refine x_calls (as := [.inl a2]) (rest := [.inr (.inl 1)]) i_2_86 k_2_67 rfl rfl rfl (Nat.le_of_ble_eq_true rfl) m_14 rfl ?_
                  refine x_iconst i_14_0 (by decide) rfl ?_
                  refine x_iload_n i_14_1 rfl rfl ?_
                  obtain ⟨q27, h⟩ := h
                  refine x_imul i_14_2 rfl q27 ?_
                  refine x_ireti i_14_3 r_14 ?_
                  refine x_bki rfl ?_
                  refine x_iload_n i_2_89 rfl rfl ?_
                  refine x_calls (as := [.inl a3]) (rest := [.inl (2 * a2), .inr (.inl 1)]) i_2_90 k_2_67 rfl rfl rfl (Nat.le_of_ble_eq_true rfl) m_14 rfl ?_
                  refine x_iconst i_14_0 (by decide) rfl ?_
                  refine x_iload_n i_14_1 rfl rfl ?_
                  obtain ⟨q28, h⟩ := h
                  refine x_imul i_14_2 rfl q28 ?_
                  refine x_ireti i_14_3 r_14 ?_
                  refine x_bki rfl ?_
                  refine x_calls (as := [.inl (2 * a3)]) (rest := [.inl (2 * a2), .inr (.inl 1)]) i_2_93 k_2_80 rfl rfl rfl (Nat.le_of_ble_eq_true rfl) m_15 rfl ?_
                  refine x_iload_n i_15_0 rfl rfl ?_
                  refine x_iconst i_15_1 (by decide) rfl ?_
                  refine x_ixor i_15_2 rfl ?_
                  refine x_ireti i_15_3 r_15 ?_
                  refine x_bki rfl ?_
                  refine x_iload_n i_2_96 rfl rfl ?_
                  refine x_calls (as := [.inl a3]) (rest := [.inl (pm_op (2 * a3)), .inl (2 * a2), .inr (.inl 1)]) i_2_97 k_2_67 rfl rfl rfl (Nat.le_of_ble_eq_true rfl) m_14 rfl ?_
                  refine x_iconst i_14_0 (by decide) rfl ?_
                  refine x_iload_n i_14_1 rfl rfl ?_
                  refine x_imul i_14_2 rfl q28 ?_
                  refine x_ireti i_14_3 r_14 ?_
                  refine x_bki rfl ?_
                  refine x_callv (as := [.inl (2 * a2), .inl (pm_op (2 * a3)), .inl (2 * a3)]) (rest := []) i_2_100 k_2_71 rfl rfl rfl g_1 (Nat.le_of_ble_eq_true rfl) m_25 rfl ?_
                  refine x_aload_n i_25_0 rfl rfl ?_
                  refine x_geti (v := M 1 6) i_25_1 f_25_31 g_1 rfl (rfl) rfl ?_
                  refine x_istore i_25_4 (Nat.le_of_ble_eq_true rfl) rfl rfl ?_
                  refine x_aload_n i_25_6 rfl rfl ?_
                  refine x_getr i_25_7 f_25_9 g_1 rfl rfl ?_
                  refine x_iload i_25_10 rfl rfl ?_
                  refine x_iload_n i_25_12 rfl rfl ?_
                  obtain ⟨q29, h⟩ := h
                  refine x_iastore i_25_13 g_7 rfl q29 ?_
                  refine x_aload_n i_25_14 rfl rfl ?_
                  refine x_getr i_25_15 f_25_15 g_1 rfl rfl ?_
                  refine x_iload i_25_18 rfl rfl ?_
                  refine x_iload_n i_25_20 rfl rfl ?_
                  refine x_iastore i_25_21 g_8 rfl q29 ?_
                  refine x_aload_n i_25_22 rfl rfl ?_
                  refine x_getr i_25_23 f_25_18 g_1 rfl rfl ?_
                  refine x_iload i_25_26 rfl rfl ?_
                  refine x_iload_n i_25_28 rfl rfl ?_
                  refine x_iastore i_25_29 g_9 rfl q29 ?_
                  refine x_aload_n i_25_30 rfl rfl ?_
                  refine x_dup i_25_31 rfl rfl ?_
                  refine x_geti (v := M 1 6) i_25_32 f_25_31 g_1 rfl (pm_get_c (by decide) (pm_get_c (by decide) (pm_get_c (by decide) rfl))) rfl ?_
                  refine x_iconst i_25_35 (by decide) rfl ?_
                  obtain ⟨q30, h⟩ := h
                  refine x_iadd i_25_36 rfl q30 ?_
                  refine x_puti i_25_37 f_25_31 g_1 rfl rfl ?_
                  refine x_iload i_25_40 rfl rfl ?_
                  refine x_ireti i_25_42 r_25 ?_
                  refine x_bki rfl ?_
                  refine x_ireti i_2_103 r_2 ?_
                  refine x_bki rfl ?_
                  refine x_i2l i_88_10 rfl ?_
                  refine x_lastore i_88_11 g_34 rfl (by decide) ?_
                  refine x_goto i_88_12 rfl ?_
                  refine x_iconst i_88_27 (by decide) rfl ?_
                  exact x_ireti i_88_28 r_88 h
                · replace h := h.2 c26
                  refine x_aload_n i_2_64 rfl rfl ?_
                  refine x_getr i_2_65 f_2_12 g_0 rfl rfl ?_
                  refine x_iload_n i_2_68 rfl rfl ?_
                  refine x_calls (as := [.inl a2]) (rest := [.inr (.inl 1)]) i_2_69 k_2_67 rfl rfl rfl (Nat.le_of_ble_eq_true rfl) m_14 rfl ?_
                  refine x_iconst i_14_0 (by decide) rfl ?_
                  refine x_iload_n i_14_1 rfl rfl ?_
                  obtain ⟨q31, h⟩ := h
                  refine x_imul i_14_2 rfl q31 ?_
                  refine x_ireti i_14_3 r_14 ?_
                  refine x_bki rfl ?_
                  refine x_iconst i_2_72 (by decide) rfl ?_
                  refine x_iload_n i_2_73 rfl rfl ?_
                  refine x_calls (as := [.inl a3]) (rest := [.inl 1, .inl (2 * a2), .inr (.inl 1)]) i_2_74 k_2_67 rfl rfl rfl (Nat.le_of_ble_eq_true rfl) m_14 rfl ?_
                  refine x_iconst i_14_0 (by decide) rfl ?_
                  refine x_iload_n i_14_1 rfl rfl ?_
                  obtain ⟨q32, h⟩ := h
                  refine x_imul i_14_2 rfl q32 ?_
                  refine x_ireti i_14_3 r_14 ?_
                  refine x_bki rfl ?_
                  refine x_callv (as := [.inl (2 * a2), .inl 1, .inl (2 * a3)]) (rest := []) i_2_77 k_2_71 rfl rfl rfl g_1 (Nat.le_of_ble_eq_true rfl) m_25 rfl ?_
                  refine x_aload_n i_25_0 rfl rfl ?_
                  refine x_geti (v := M 1 6) i_25_1 f_25_31 g_1 rfl (rfl) rfl ?_
                  refine x_istore i_25_4 (Nat.le_of_ble_eq_true rfl) rfl rfl ?_
                  refine x_aload_n i_25_6 rfl rfl ?_
                  refine x_getr i_25_7 f_25_9 g_1 rfl rfl ?_
                  refine x_iload i_25_10 rfl rfl ?_
                  refine x_iload_n i_25_12 rfl rfl ?_
                  obtain ⟨q33, h⟩ := h
                  refine x_iastore i_25_13 g_7 rfl q33 ?_
                  refine x_aload_n i_25_14 rfl rfl ?_
                  refine x_getr i_25_15 f_25_15 g_1 rfl rfl ?_
                  refine x_iload i_25_18 rfl rfl ?_
                  refine x_iload_n i_25_20 rfl rfl ?_
                  refine x_iastore i_25_21 g_8 rfl q33 ?_
                  refine x_aload_n i_25_22 rfl rfl ?_
                  refine x_getr i_25_23 f_25_18 g_1 rfl rfl ?_
                  refine x_iload i_25_26 rfl rfl ?_
                  refine x_iload_n i_25_28 rfl rfl ?_
                  refine x_iastore i_25_29 g_9 rfl q33 ?_
                  refine x_aload_n i_25_30 rfl rfl ?_
                  refine x_dup i_25_31 rfl rfl ?_
                  refine x_geti (v := M 1 6) i_25_32 f_25_31 g_1 rfl (pm_get_c (by decide) (pm_get_c (by decide) (pm_get_c (by decide) rfl))) rfl ?_
                  refine x_iconst i_25_35 (by decide) rfl ?_
                  obtain ⟨q34, h⟩ := h
                  refine x_iadd i_25_36 rfl q34 ?_
                  refine x_puti i_25_37 f_25_31 g_1 rfl rfl ?_
                  refine x_iload i_25_40 rfl rfl ?_
                  refine x_ireti i_25_42 r_25 ?_
                  refine x_bki rfl ?_
                  refine x_ireti i_2_80 r_2 ?_
                  refine x_bki rfl ?_
                  refine x_i2l i_88_10 rfl ?_
                  refine x_lastore i_88_11 g_34 rfl (by decide) ?_
                  refine x_goto i_88_12 rfl ?_
                  refine x_iconst i_88_27 (by decide) rfl ?_
                  exact x_ireti i_88_28 r_88 h
              · replace h := h.2 c25
                obtain ⟨q35, h⟩ := h
                refine x_throw i_18_13 t_18_49 q35 ?_
                refine x_bkt rfl ?_
                refine x_bkc (h0 := 23) (nx := 25) (i := 5) rfl rfl ?_
                refine x_iconst i_88_25 (by decide) rfl ?_
                exact x_ireti i_88_26 r_88 h
            · replace h := h.2 c24
              refine x_iload_n i_2_19 rfl rfl ?_
              refine x_iconst i_2_20 (by decide) rfl ?_
              refine x_icmp (C := a1 = 2) i_2_21 rfl Iff.rfl rfl ⟨fun c36 => ?_, fun c36 => ?_⟩
              · replace h := h.1 c36
                refine x_aload_n i_2_34 rfl rfl ?_
                refine x_callv (as := []) (rest := []) i_2_35 k_2_56 rfl rfl rfl g_0 (Nat.le_of_ble_eq_true rfl) m_18 rfl ?_
                refine x_aload_n i_18_0 rfl rfl ?_
                refine x_getr i_18_1 f_18_12 g_0 rfl rfl ?_
                refine x_geti (v := M 1 6) i_18_4 f_18_126 g_1 rfl (rfl) rfl ?_
                refine x_sipush i_18_7 (by decide) rfl ?_
                refine x_icmp (C := ¬ M 1 6 = 2000) i_18_10 rfl Iff.rfl rfl ⟨fun c37 => ?_, fun c37 => ?_⟩
                · replace h := h.1 c37
                  refine x_ret i_18_23 r_18 ?_
                  refine x_bkv rfl ?_
                  refine x_iload_n i_2_38 rfl rfl ?_
                  refine x_ifT i_2_39 rfl c7 ?_
                  refine x_iload_n i_2_59 rfl rfl ?_
                  refine x_iconst i_2_60 (by decide) rfl ?_
                  refine x_icmpT i_2_61 rfl c24 ?_
                  refine x_aload_n i_2_81 rfl rfl ?_
                  refine x_getr i_2_82 f_2_12 g_0 rfl rfl ?_
                  refine x_iload_n i_2_85 rfl rfl ?_
                  refine x_calls (as := [.inl a2]) (rest := [.inr (.inl 1)]) i_2_86 k_2_67 rfl rfl rfl (Nat.le_of_ble_eq_true rfl) m_14 rfl ?_
                  refine x_iconst i_14_0 (by decide) rfl ?_
                  refine x_iload_n i_14_1 rfl rfl ?_
                  obtain ⟨q38, h⟩ := h
                  refine x_imul i_14_2 rfl q38 ?_
                  refine x_ireti i_14_3 r_14 ?_
                  refine x_bki rfl ?_
                  refine x_iload_n i_2_89 rfl rfl ?_
                  refine x_calls (as := [.inl a3]) (rest := [.inl (2 * a2), .inr (.inl 1)]) i_2_90 k_2_67 rfl rfl rfl (Nat.le_of_ble_eq_true rfl) m_14 rfl ?_
                  refine x_iconst i_14_0 (by decide) rfl ?_
                  refine x_iload_n i_14_1 rfl rfl ?_
                  obtain ⟨q39, h⟩ := h
                  refine x_imul i_14_2 rfl q39 ?_
                  refine x_ireti i_14_3 r_14 ?_
                  refine x_bki rfl ?_
                  refine x_calls (as := [.inl (2 * a3)]) (rest := [.inl (2 * a2), .inr (.inl 1)]) i_2_93 k_2_80 rfl rfl rfl (Nat.le_of_ble_eq_true rfl) m_15 rfl ?_
                  refine x_iload_n i_15_0 rfl rfl ?_
                  refine x_iconst i_15_1 (by decide) rfl ?_
                  refine x_ixor i_15_2 rfl ?_
                  refine x_ireti i_15_3 r_15 ?_
                  refine x_bki rfl ?_
                  refine x_iload_n i_2_96 rfl rfl ?_
                  refine x_calls (as := [.inl a3]) (rest := [.inl (pm_op (2 * a3)), .inl (2 * a2), .inr (.inl 1)]) i_2_97 k_2_67 rfl rfl rfl (Nat.le_of_ble_eq_true rfl) m_14 rfl ?_
                  refine x_iconst i_14_0 (by decide) rfl ?_
                  refine x_iload_n i_14_1 rfl rfl ?_
                  refine x_imul i_14_2 rfl q39 ?_
                  refine x_ireti i_14_3 r_14 ?_
                  refine x_bki rfl ?_
                  refine x_callv (as := [.inl (2 * a2), .inl (pm_op (2 * a3)), .inl (2 * a3)]) (rest := []) i_2_100 k_2_71 rfl rfl rfl g_1 (Nat.le_of_ble_eq_true rfl) m_25 rfl ?_
                  refine x_aload_n i_25_0 rfl rfl ?_
                  refine x_geti (v := M 1 6) i_25_1 f_25_31 g_1 rfl (rfl) rfl ?_
                  refine x_istore i_25_4 (Nat.le_of_ble_eq_true rfl) rfl rfl ?_
                  refine x_aload_n i_25_6 rfl rfl ?_
                  refine x_getr i_25_7 f_25_9 g_1 rfl rfl ?_
                  refine x_iload i_25_10 rfl rfl ?_
                  refine x_iload_n i_25_12 rfl rfl ?_
                  obtain ⟨q40, h⟩ := h
                  refine x_iastore i_25_13 g_7 rfl q40 ?_
                  refine x_aload_n i_25_14 rfl rfl ?_
                  refine x_getr i_25_15 f_25_15 g_1 rfl rfl ?_
                  refine x_iload i_25_18 rfl rfl ?_
                  refine x_iload_n i_25_20 rfl rfl ?_
                  refine x_iastore i_25_21 g_8 rfl q40 ?_
                  refine x_aload_n i_25_22 rfl rfl ?_
                  refine x_getr i_25_23 f_25_18 g_1 rfl rfl ?_
                  refine x_iload i_25_26 rfl rfl ?_
                  refine x_iload_n i_25_28 rfl rfl ?_
                  refine x_iastore i_25_29 g_9 rfl q40 ?_
                  refine x_aload_n i_25_30 rfl rfl ?_
                  refine x_dup i_25_31 rfl rfl ?_
                  refine x_geti (v := M 1 6) i_25_32 f_25_31 g_1 rfl (pm_get_c (by decide) (pm_get_c (by decide) (pm_get_c (by decide) rfl))) rfl ?_
                  refine x_iconst i_25_35 (by decide) rfl ?_
                  obtain ⟨q41, h⟩ := h
                  refine x_iadd i_25_36 rfl q41 ?_
                  refine x_puti i_25_37 f_25_31 g_1 rfl rfl ?_
                  refine x_iload i_25_40 rfl rfl ?_
                  refine x_ireti i_25_42 r_25 ?_
                  refine x_bki rfl ?_
                  refine x_ireti i_2_103 r_2 ?_
                  refine x_bki rfl ?_
                  refine x_i2l i_88_10 rfl ?_
                  refine x_lastore i_88_11 g_34 rfl (by decide) ?_
                  refine x_goto i_88_12 rfl ?_
                  refine x_iconst i_88_27 (by decide) rfl ?_
                  exact x_ireti i_88_28 r_88 h
                · replace h := h.2 c37
                  obtain ⟨q42, h⟩ := h
                  refine x_throw i_18_13 t_18_49 q42 ?_
                  refine x_bkt rfl ?_
                  refine x_bkc (h0 := 23) (nx := 25) (i := 5) rfl rfl ?_
                  refine x_iconst i_88_25 (by decide) rfl ?_
                  exact x_ireti i_88_26 r_88 h
              · replace h := h.2 c36
                obtain ⟨q43, h⟩ := h
                refine x_throw i_2_24 t_2_75 q43 ?_
                refine x_bkc (h0 := 19) (nx := 21) (i := 5) rfl rfl ?_
                refine x_iconst i_88_21 (by decide) rfl ?_
                exact x_ireti i_88_22 r_88 h
        · replace h := h.2 c6
          obtain ⟨q44, h⟩ := h
          refine x_throw i_17_15 t_17_101 q44 ?_
          refine x_bkt rfl ?_
          refine x_bkc (h0 := 15) (nx := 17) (i := 5) rfl rfl ?_
          refine x_iconst i_88_17 (by decide) rfl ?_
          exact x_ireti i_88_18 r_88 h
    · replace h := h.2 c3
      obtain ⟨q45, h⟩ := h
      refine x_throw i_17_15 t_17_101 q45 ?_
      refine x_bkt rfl ?_
      refine x_bkc (h0 := 15) (nx := 17) (i := 5) rfl rfl ?_
      refine x_iconst i_88_17 (by decide) rfl ?_
      exact x_ireti i_88_18 r_88 h
/-! GateBenchLaw.choose at 0 -/
theorem s_89_0 {L : Nat} {M : pm_M} {Q : pm_P} {a1 a2 a3 : Int}
    (h : ((a1 < 0 → (1 ≤ M 99 0) ∧ Q (.inl (some (.inl 1))) (pm_set M 99 0 (M 99 0 - 1))) ∧ (¬ (a1 < 0) → ((a1 < M 1 6 → ((a2 < 0 → (1 ≤ M 99 0) ∧ Q (.inl (some (.inl 1))) (pm_set M 99 0 (M 99 0 - 1))) ∧ (¬ (a2 < 0) → ((a2 < M 1 6 → ((a3 < 0 → (1 ≤ M 99 0) ∧ Q (.inl (some (.inl 1))) (pm_set M 99 0 (M 99 0 - 1))) ∧ (¬ (a3 < 0) → ((a3 < M 1 6 → ((¬ M 1 6 = 2000 → (pm_R (2 * a1)) ∧ (pm_R (2 * a2)) ∧ (pm_R (2 * a3)) ∧ (0 ≤ M 1 6 ∧ M 1 6 < 2000) ∧ (pm_R (M 1 6 + 1)) ∧ Q (.inl (some (.inl 0))) (pm_set (pm_set (pm_set (pm_set (pm_set M 7 (M 1 6) (2 * a1)) 8 (M 1 6) (2 * a2)) 9 (M 1 6) (2 * a3)) 1 6 (M 1 6 + 1)) 34 0 (M 1 6))) ∧ (¬ (¬ M 1 6 = 2000) → (1 ≤ M 99 0) ∧ Q (.inl (some (.inl 2))) (pm_set M 99 0 (M 99 0 - 1))))) ∧ (¬ (a3 < M 1 6) → (1 ≤ M 99 0) ∧ Q (.inl (some (.inl 1))) (pm_set M 99 0 (M 99 0 - 1))))))) ∧ (¬ (a2 < M 1 6) → (1 ≤ M 99 0) ∧ Q (.inl (some (.inl 1))) (pm_set M 99 0 (M 99 0 - 1))))))) ∧ (¬ (a1 < M 1 6) → (1 ≤ M 99 0) ∧ Q (.inl (some (.inl 1))) (pm_set M 99 0 (M 99 0 - 1))))))) :
    pm_X L (89, 0, [some (.inr (.inl 0)), some (.inl a1), some (.inl a2), some (.inl a3), some (.inr (.inl 34)), none], [], M) Q := by
  refine x_aload i_89_0 rfl rfl ?_
  refine x_iconst i_89_2 (by decide) rfl ?_
  refine x_aload_n i_89_3 rfl rfl ?_
  refine x_iload_n i_89_4 rfl rfl ?_
  refine x_iload_n i_89_5 rfl rfl ?_
  refine x_iload_n i_89_6 rfl rfl ?_
  refine x_callv (as := [.inl a1, .inl a2, .inl a3]) (rest := [.inl 0, .inr (.inl 34)]) i_89_7 k_89_27 rfl rfl rfl g_0 (Nat.le_of_ble_eq_true rfl) m_3 rfl ?_
  refine x_aload_n i_3_0 rfl rfl ?_
  refine x_iload_n i_3_1 rfl rfl ?_
  refine x_callv (as := [.inl a1]) (rest := []) i_3_2 k_3_63 rfl rfl rfl g_0 (Nat.le_of_ble_eq_true rfl) m_17 rfl ?_
  refine x_iload_n i_17_0 rfl rfl ?_
  refine x_if (C := a1 < 0) i_17_1 rfl Iff.rfl rfl ⟨fun c1 => ?_, fun c1 => ?_⟩
  · replace h := h.1 c1
    obtain ⟨q2, h⟩ := h
    refine x_throw i_17_15 t_17_101 q2 ?_
    refine x_bkt rfl ?_
    refine x_bkc (h0 := 15) (nx := 17) (i := 5) rfl rfl ?_
    refine x_iconst i_89_17 (by decide) rfl ?_
    exact x_ireti i_89_18 r_89 h
  · replace h := h.2 c1
    refine x_iload_n i_17_4 rfl rfl ?_
    refine x_aload_n i_17_5 rfl rfl ?_
    refine x_getr i_17_6 f_17_12 g_0 rfl rfl ?_
    refine x_geti (v := M 1 6) i_17_9 f_17_126 g_1 rfl (rfl) rfl ?_
    refine x_icmp (C := a1 < M 1 6) i_17_12 rfl Iff.rfl rfl ⟨fun c3 => ?_, fun c3 => ?_⟩
    · replace h := h.1 c3
      refine x_ret i_17_25 r_17 ?_
      refine x_bkv rfl ?_
      refine x_aload_n i_3_5 rfl rfl ?_
      refine x_iload_n i_3_6 rfl rfl ?_
      refine x_callv (as := [.inl a2]) (rest := []) i_3_7 k_3_63 rfl rfl rfl g_0 (Nat.le_of_ble_eq_true rfl) m_17 rfl ?_
      refine x_iload_n i_17_0 rfl rfl ?_
      refine x_if (C := a2 < 0) i_17_1 rfl Iff.rfl rfl ⟨fun c4 => ?_, fun c4 => ?_⟩
      · replace h := h.1 c4
        obtain ⟨q5, h⟩ := h
        refine x_throw i_17_15 t_17_101 q5 ?_
        refine x_bkt rfl ?_
        refine x_bkc (h0 := 15) (nx := 17) (i := 5) rfl rfl ?_
        refine x_iconst i_89_17 (by decide) rfl ?_
        exact x_ireti i_89_18 r_89 h
      · replace h := h.2 c4
        refine x_iload_n i_17_4 rfl rfl ?_
        refine x_aload_n i_17_5 rfl rfl ?_
        refine x_getr i_17_6 f_17_12 g_0 rfl rfl ?_
        refine x_geti (v := M 1 6) i_17_9 f_17_126 g_1 rfl (rfl) rfl ?_
        refine x_icmp (C := a2 < M 1 6) i_17_12 rfl Iff.rfl rfl ⟨fun c6 => ?_, fun c6 => ?_⟩
        · replace h := h.1 c6
          refine x_ret i_17_25 r_17 ?_
          refine x_bkv rfl ?_
          refine x_aload_n i_3_10 rfl rfl ?_
          refine x_iload_n i_3_11 rfl rfl ?_
          refine x_callv (as := [.inl a3]) (rest := []) i_3_12 k_3_63 rfl rfl rfl g_0 (Nat.le_of_ble_eq_true rfl) m_17 rfl ?_
          refine x_iload_n i_17_0 rfl rfl ?_
          refine x_if (C := a3 < 0) i_17_1 rfl Iff.rfl rfl ⟨fun c7 => ?_, fun c7 => ?_⟩
          · replace h := h.1 c7
            obtain ⟨q8, h⟩ := h
            refine x_throw i_17_15 t_17_101 q8 ?_
            refine x_bkt rfl ?_
            refine x_bkc (h0 := 15) (nx := 17) (i := 5) rfl rfl ?_
            refine x_iconst i_89_17 (by decide) rfl ?_
            exact x_ireti i_89_18 r_89 h
          · replace h := h.2 c7
            refine x_iload_n i_17_4 rfl rfl ?_
            refine x_aload_n i_17_5 rfl rfl ?_
            refine x_getr i_17_6 f_17_12 g_0 rfl rfl ?_
            refine x_geti (v := M 1 6) i_17_9 f_17_126 g_1 rfl (rfl) rfl ?_
            refine x_icmp (C := a3 < M 1 6) i_17_12 rfl Iff.rfl rfl ⟨fun c9 => ?_, fun c9 => ?_⟩
            · replace h := h.1 c9
              refine x_ret i_17_25 r_17 ?_
              refine x_bkv rfl ?_
              refine x_aload_n i_3_15 rfl rfl ?_
              refine x_callv (as := []) (rest := []) i_3_16 k_3_56 rfl rfl rfl g_0 (Nat.le_of_ble_eq_true rfl) m_18 rfl ?_
              refine x_aload_n i_18_0 rfl rfl ?_
              refine x_getr i_18_1 f_18_12 g_0 rfl rfl ?_
              refine x_geti (v := M 1 6) i_18_4 f_18_126 g_1 rfl (rfl) rfl ?_
              refine x_sipush i_18_7 (by decide) rfl ?_
              refine x_icmp (C := ¬ M 1 6 = 2000) i_18_10 rfl Iff.rfl rfl ⟨fun c10 => ?_, fun c10 => ?_⟩
              · replace h := h.1 c10
                refine x_ret i_18_23 r_18 ?_
                refine x_bkv rfl ?_
                refine x_aload_n i_3_19 rfl rfl ?_
                refine x_getr i_3_20 f_3_12 g_0 rfl rfl ?_
                refine x_iload_n i_3_23 rfl rfl ?_
                refine x_calls (as := [.inl a1]) (rest := [.inr (.inl 1)]) i_3_24 k_3_67 rfl rfl rfl (Nat.le_of_ble_eq_true rfl) m_14 rfl ?_
                refine x_iconst i_14_0 (by decide) rfl ?_
                refine x_iload_n i_14_1 rfl rfl ?_
                obtain ⟨q11, h⟩ := h
                refine x_imul i_14_2 rfl q11 ?_
                refine x_ireti i_14_3 r_14 ?_
                refine x_bki rfl ?_
                refine x_iload_n i_3_27 rfl rfl ?_
                refine x_calls (as := [.inl a2]) (rest := [.inl (2 * a1), .inr (.inl 1)]) i_3_28 k_3_67 rfl rfl rfl (Nat.le_of_ble_eq_true rfl) m_14 rfl ?_
                refine x_iconst i_14_0 (by decide) rfl ?_
                refine x_iload_n i_14_1 rfl rfl ?_
                obtain ⟨q12, h⟩ := h
                refine x_imul i_14_2 rfl q12 ?_
                refine x_ireti i_14_3 r_14 ?_
                refine x_bki rfl ?_
                refine x_iload_n i_3_31 rfl rfl ?_
                refine x_calls (as := [.inl a3]) (rest := [.inl (2 * a2), .inl (2 * a1), .inr (.inl 1)]) i_3_32 k_3_67 rfl rfl rfl (Nat.le_of_ble_eq_true rfl) m_14 rfl ?_
                refine x_iconst i_14_0 (by decide) rfl ?_
                refine x_iload_n i_14_1 rfl rfl ?_
                obtain ⟨q13, h⟩ := h
                refine x_imul i_14_2 rfl q13 ?_
                refine x_ireti i_14_3 r_14 ?_
                refine x_bki rfl ?_
                refine x_callv (as := [.inl (2 * a1), .inl (2 * a2), .inl (2 * a3)]) (rest := []) i_3_35 k_3_71 rfl rfl rfl g_1 (Nat.le_of_ble_eq_true rfl) m_25 rfl ?_
                refine x_aload_n i_25_0 rfl rfl ?_
                refine x_geti (v := M 1 6) i_25_1 f_25_31 g_1 rfl (rfl) rfl ?_
                refine x_istore i_25_4 (Nat.le_of_ble_eq_true rfl) rfl rfl ?_
                refine x_aload_n i_25_6 rfl rfl ?_
                refine x_getr i_25_7 f_25_9 g_1 rfl rfl ?_
                refine x_iload i_25_10 rfl rfl ?_
                refine x_iload_n i_25_12 rfl rfl ?_
                obtain ⟨q14, h⟩ := h
                refine x_iastore i_25_13 g_7 rfl q14 ?_
                refine x_aload_n i_25_14 rfl rfl ?_
                refine x_getr i_25_15 f_25_15 g_1 rfl rfl ?_
                refine x_iload i_25_18 rfl rfl ?_
                refine x_iload_n i_25_20 rfl rfl ?_
                refine x_iastore i_25_21 g_8 rfl q14 ?_
                refine x_aload_n i_25_22 rfl rfl ?_
                refine x_getr i_25_23 f_25_18 g_1 rfl rfl ?_
                refine x_iload i_25_26 rfl rfl ?_
                refine x_iload_n i_25_28 rfl rfl ?_
                refine x_iastore i_25_29 g_9 rfl q14 ?_
                refine x_aload_n i_25_30 rfl rfl ?_
                refine x_dup i_25_31 rfl rfl ?_
                refine x_geti (v := M 1 6) i_25_32 f_25_31 g_1 rfl (pm_get_c (by decide) (pm_get_c (by decide) (pm_get_c (by decide) rfl))) rfl ?_
                refine x_iconst i_25_35 (by decide) rfl ?_
                obtain ⟨q15, h⟩ := h
                refine x_iadd i_25_36 rfl q15 ?_
                refine x_puti i_25_37 f_25_31 g_1 rfl rfl ?_
                refine x_iload i_25_40 rfl rfl ?_
                refine x_ireti i_25_42 r_25 ?_
                refine x_bki rfl ?_
                refine x_ireti i_3_38 r_3 ?_
                refine x_bki rfl ?_
                refine x_i2l i_89_10 rfl ?_
                refine x_lastore i_89_11 g_34 rfl (by decide) ?_
                refine x_goto i_89_12 rfl ?_
                refine x_iconst i_89_23 (by decide) rfl ?_
                exact x_ireti i_89_24 r_89 h
              · replace h := h.2 c10
                obtain ⟨q16, h⟩ := h
                refine x_throw i_18_13 t_18_49 q16 ?_
                refine x_bkt rfl ?_
                refine x_bkc (h0 := 19) (nx := 21) (i := 5) rfl rfl ?_
                refine x_iconst i_89_21 (by decide) rfl ?_
                exact x_ireti i_89_22 r_89 h
            · replace h := h.2 c9
              obtain ⟨q17, h⟩ := h
              refine x_throw i_17_15 t_17_101 q17 ?_
              refine x_bkt rfl ?_
              refine x_bkc (h0 := 15) (nx := 17) (i := 5) rfl rfl ?_
              refine x_iconst i_89_17 (by decide) rfl ?_
              exact x_ireti i_89_18 r_89 h
        · replace h := h.2 c6
          obtain ⟨q18, h⟩ := h
          refine x_throw i_17_15 t_17_101 q18 ?_
          refine x_bkt rfl ?_
          refine x_bkc (h0 := 15) (nx := 17) (i := 5) rfl rfl ?_
          refine x_iconst i_89_17 (by decide) rfl ?_
          exact x_ireti i_89_18 r_89 h
    · replace h := h.2 c3
      obtain ⟨q19, h⟩ := h
      refine x_throw i_17_15 t_17_101 q19 ?_
      refine x_bkt rfl ?_
      refine x_bkc (h0 := 15) (nx := 17) (i := 5) rfl rfl ?_
      refine x_iconst i_89_17 (by decide) rfl ?_
      exact x_ireti i_89_18 r_89 h
/-! GateBenchLaw.want at 0 -/
theorem s_90_0 {L : Nat} {M : pm_M} {Q : pm_P} {a1 : Int}
    (h : ((a1 < 0 → (1 ≤ M 99 0) ∧ Q (.inl (some (.inl 1))) (pm_set M 99 0 (M 99 0 - 1))) ∧ (¬ (a1 < 0) → ((a1 < M 1 6 → ((¬ M 0 5 = 20 → (0 ≤ M 0 5 ∧ M 0 5 < 20) ∧ (pm_R (M 0 5 + 1)) ∧ Q (.inl (some (.inl 0))) (pm_set (pm_set (pm_set M 6 (M 0 5) a1) 0 5 (M 0 5 + 1)) 34 0 (M 0 5 + 1))) ∧ (¬ (¬ M 0 5 = 20) → (1 ≤ M 99 0) ∧ Q (.inl (some (.inl 2))) (pm_set M 99 0 (M 99 0 - 1))))) ∧ (¬ (a1 < M 1 6) → (1 ≤ M 99 0) ∧ Q (.inl (some (.inl 1))) (pm_set M 99 0 (M 99 0 - 1))))))) :
    pm_X L (90, 0, [some (.inr (.inl 0)), some (.inl a1), some (.inr (.inl 34)), none], [], M) Q := by
  refine x_aload_n i_90_0 rfl rfl ?_
  refine x_iconst i_90_1 (by decide) rfl ?_
  refine x_aload_n i_90_2 rfl rfl ?_
  refine x_iload_n i_90_3 rfl rfl ?_
  refine x_callv (as := [.inl a1]) (rest := [.inl 0, .inr (.inl 34)]) i_90_4 k_90_30 rfl rfl rfl g_0 (Nat.le_of_ble_eq_true rfl) m_4 rfl ?_
  refine x_aload_n i_4_0 rfl rfl ?_
  refine x_iload_n i_4_1 rfl rfl ?_
  refine x_callv (as := [.inl a1]) (rest := []) i_4_2 k_4_63 rfl rfl rfl g_0 (Nat.le_of_ble_eq_true rfl) m_17 rfl ?_
  refine x_iload_n i_17_0 rfl rfl ?_
  refine x_if (C := a1 < 0) i_17_1 rfl Iff.rfl rfl ⟨fun c1 => ?_, fun c1 => ?_⟩
  · replace h := h.1 c1
    obtain ⟨q2, h⟩ := h
    refine x_throw i_17_15 t_17_101 q2 ?_
    refine x_bkt rfl ?_
    refine x_bkc (h0 := 12) (nx := 13) (i := 3) rfl rfl ?_
    refine x_iconst i_90_13 (by decide) rfl ?_
    exact x_ireti i_90_14 r_90 h
  · replace h := h.2 c1
    refine x_iload_n i_17_4 rfl rfl ?_
    refine x_aload_n i_17_5 rfl rfl ?_
    refine x_getr i_17_6 f_17_12 g_0 rfl rfl ?_
    refine x_geti (v := M 1 6) i_17_9 f_17_126 g_1 rfl (rfl) rfl ?_
    refine x_icmp (C := a1 < M 1 6) i_17_12 rfl Iff.rfl rfl ⟨fun c3 => ?_, fun c3 => ?_⟩
    · replace h := h.1 c3
      refine x_ret i_17_25 r_17 ?_
      refine x_bkv rfl ?_
      refine x_aload_n i_4_5 rfl rfl ?_
      refine x_geti (v := M 0 5) i_4_6 f_4_83 g_0 rfl (rfl) rfl ?_
      refine x_bipush i_4_9 (by decide) rfl ?_
      refine x_icmp (C := ¬ M 0 5 = 20) i_4_11 rfl Iff.rfl rfl ⟨fun c4 => ?_, fun c4 => ?_⟩
      · replace h := h.1 c4
        refine x_aload_n i_4_24 rfl rfl ?_
        refine x_getr i_4_25 f_4_41 g_0 rfl rfl ?_
        refine x_aload_n i_4_28 rfl rfl ?_
        refine x_geti (v := M 0 5) i_4_29 f_4_83 g_0 rfl (rfl) rfl ?_
        refine x_iload_n i_4_32 rfl rfl ?_
        obtain ⟨q5, h⟩ := h
        refine x_iastore i_4_33 g_6 rfl q5 ?_
        refine x_aload_n i_4_34 rfl rfl ?_
        refine x_dup i_4_35 rfl rfl ?_
        refine x_geti (v := M 0 5) i_4_36 f_4_83 g_0 rfl (pm_get_c (by decide) rfl) rfl ?_
        refine x_iconst i_4_39 (by decide) rfl ?_
        obtain ⟨q6, h⟩ := h
        refine x_iadd i_4_40 rfl q6 ?_
        refine x_puti i_4_41 f_4_83 g_0 rfl rfl ?_
        refine x_aload_n i_4_44 rfl rfl ?_
        refine x_geti (v := M 0 5 + 1) i_4_45 f_4_83 g_0 rfl (pm_get_e) rfl ?_
        refine x_ireti i_4_48 r_4 ?_
        refine x_bki rfl ?_
        refine x_i2l i_90_7 rfl ?_
        refine x_lastore i_90_8 g_34 rfl (by decide) ?_
        refine x_goto i_90_9 rfl ?_
        refine x_iconst i_90_18 (by decide) rfl ?_
        exact x_ireti i_90_19 r_90 h
      · replace h := h.2 c4
        obtain ⟨q7, h⟩ := h
        refine x_throw i_4_14 t_4_49 q7 ?_
        refine x_bkc (h0 := 15) (nx := 16) (i := 3) rfl rfl ?_
        refine x_iconst i_90_16 (by decide) rfl ?_
        exact x_ireti i_90_17 r_90 h
    · replace h := h.2 c3
      obtain ⟨q8, h⟩ := h
      refine x_throw i_17_15 t_17_101 q8 ?_
      refine x_bkt rfl ?_
      refine x_bkc (h0 := 12) (nx := 13) (i := 3) rfl rfl ?_
      refine x_iconst i_90_13 (by decide) rfl ?_
      exact x_ireti i_90_14 r_90 h
/-! GateBenchLaw.wanted at 0 -/
theorem s_91_0 {L : Nat} {M : pm_M} {Q : pm_P} {a1 : Int}
    (h : ((a1 < 0 → (1 ≤ M 99 0) ∧ Q (.inl (some (.inl 1))) (pm_set M 99 0 (M 99 0 - 1))) ∧ (¬ (a1 < 0) → ((a1 < M 0 5 → (0 ≤ a1 ∧ a1 < 20) ∧ Q (.inl (some (.inl 0))) (pm_set M 34 0 (M 6 a1))) ∧ (¬ (a1 < M 0 5) → (1 ≤ M 99 0) ∧ Q (.inl (some (.inl 1))) (pm_set M 99 0 (M 99 0 - 1))))))) :
    pm_X L (91, 0, [some (.inr (.inl 0)), some (.inl a1), some (.inr (.inl 34)), none], [], M) Q := by
  refine x_aload_n i_91_0 rfl rfl ?_
  refine x_iconst i_91_1 (by decide) rfl ?_
  refine x_aload_n i_91_2 rfl rfl ?_
  refine x_iload_n i_91_3 rfl rfl ?_
  refine x_callv (as := [.inl a1]) (rest := [.inl 0, .inr (.inl 34)]) i_91_4 k_91_33 rfl rfl rfl g_0 (Nat.le_of_ble_eq_true rfl) m_8 rfl ?_
  refine x_iload_n i_8_0 rfl rfl ?_
  refine x_if (C := a1 < 0) i_8_1 rfl Iff.rfl rfl ⟨fun c1 => ?_, fun c1 => ?_⟩
  · replace h := h.1 c1
    obtain ⟨q2, h⟩ := h
    refine x_throw i_8_12 t_8_101 q2 ?_
    refine x_bkc (h0 := 12) (nx := 13) (i := 3) rfl rfl ?_
    refine x_iconst i_91_13 (by decide) rfl ?_
    exact x_ireti i_91_14 r_91 h
  · replace h := h.2 c1
    refine x_iload_n i_8_4 rfl rfl ?_
    refine x_aload_n i_8_5 rfl rfl ?_
    refine x_geti (v := M 0 5) i_8_6 f_8_83 g_0 rfl (rfl) rfl ?_
    refine x_icmp (C := a1 < M 0 5) i_8_9 rfl Iff.rfl rfl ⟨fun c3 => ?_, fun c3 => ?_⟩
    · replace h := h.1 c3
      refine x_aload_n i_8_22 rfl rfl ?_
      refine x_getr i_8_23 f_8_41 g_0 rfl rfl ?_
      refine x_iload_n i_8_26 rfl rfl ?_
      obtain ⟨q4, h⟩ := h
      refine x_iaload (v := M 6 a1) i_8_27 g_6 (rfl) rfl q4 ?_
      refine x_ireti i_8_28 r_8 ?_
      refine x_bki rfl ?_
      refine x_i2l i_91_7 rfl ?_
      refine x_lastore i_91_8 g_34 rfl (by decide) ?_
      refine x_goto i_91_9 rfl ?_
      refine x_iconst i_91_15 (by decide) rfl ?_
      exact x_ireti i_91_16 r_91 h
    · replace h := h.2 c3
      obtain ⟨q5, h⟩ := h
      refine x_throw i_8_12 t_8_101 q5 ?_
      refine x_bkc (h0 := 12) (nx := 13) (i := 3) rfl rfl ?_
      refine x_iconst i_91_13 (by decide) rfl ?_
      exact x_ireti i_91_14 r_91 h
/-! GateBenchLaw.same at 0 -/
theorem s_92_0 {L : Nat} {M : pm_M} {Q : pm_P} {a1 a2 : Int}
    (h : pm_X L (9, 0, [some (.inr (.inl 0)), some (.inl a1), some (.inl a2), none], [], M) (pm_back (pm_X L) 92 5 [some (.inr (.inl 0)), some (.inl a1), some (.inl a2), some (.inr (.inl 34)), none] [.inl 0, .inr (.inl 34)] Q)) :
    pm_X L (92, 0, [some (.inr (.inl 0)), some (.inl a1), some (.inl a2), some (.inr (.inl 34)), none], [], M) Q := by
  refine x_aload_n i_92_0 rfl rfl ?_
  refine x_iconst i_92_1 (by decide) rfl ?_
  refine x_aload_n i_92_2 rfl rfl ?_
  refine x_iload_n i_92_3 rfl rfl ?_
  refine x_iload_n i_92_4 rfl rfl ?_
  refine x_callv (as := [.inl a1, .inl a2]) (rest := [.inl 0, .inr (.inl 34)]) i_92_5 k_92_36 rfl rfl rfl g_0 (Nat.le_of_ble_eq_true rfl) m_9 rfl h
/-! GateBenchLaw.same at 8 -/
theorem s_92_8 {L : Nat} {M : pm_M} {Q : pm_P} {a1 a2 r t1 : Int}
    (h : ((r = 0 → (0 ≤ t1 ∧ t1 < 1) ∧ Q (.inl (some (.inl 0))) (pm_set M 34 t1 0)) ∧ (¬ (r = 0) → (0 ≤ t1 ∧ t1 < 1) ∧ Q (.inl (some (.inl 0))) (pm_set M 34 t1 1)))) :
    pm_X L (92, 8, [some (.inr (.inl 0)), some (.inl a1), some (.inl a2), some (.inr (.inl 34)), none], [.inl r, .inl t1, .inr (.inl 34)], M) Q := by
  refine x_if (C := r = 0) i_92_8 rfl Iff.rfl rfl ⟨fun c1 => ?_, fun c1 => ?_⟩
  · replace h := h.1 c1
    refine x_lconst (y := 0) i_92_15 rfl rfl ?_
    obtain ⟨q2, h⟩ := h
    refine x_lastore i_92_16 g_34 rfl q2 ?_
    refine x_goto i_92_17 rfl ?_
    refine x_iconst i_92_24 (by decide) rfl ?_
    exact x_ireti i_92_25 r_92 h
  · replace h := h.2 c1
    refine x_lconst (y := 1) i_92_11 rfl rfl ?_
    refine x_goto i_92_12 rfl ?_
    obtain ⟨q3, h⟩ := h
    refine x_lastore i_92_16 g_34 rfl q3 ?_
    refine x_goto i_92_17 rfl ?_
    refine x_iconst i_92_24 (by decide) rfl ?_
    exact x_ireti i_92_25 r_92 h
/-! GateBenchLaw.put at 0 -/
theorem s_93_0 {L : Nat} {M : pm_M} {Q : pm_P} {a1 a2 : Int}
    (h : ((a1 < 0 → (1 ≤ M 99 0) ∧ Q (.inl (some (.inl 1))) (pm_set M 99 0 (M 99 0 - 1))) ∧ (¬ (a1 < 0) → ((a1 < M 1 7 → (0 ≤ a1 ∧ a1 < 12) ∧ (0 ≤ M 12 a1 ∧ M 12 a1 < 2000) ∧ ((0 ≤ M 12 a1 ∧ M 12 a1 < 2000) ∧ pm_bit a2) ∧ (pm_bit (M 10 (M 12 a1))) ∧ ((M 10 (M 12 a1) = 0 → Q (.inl (some (.inl 0))) (pm_set (pm_set M 10 (M 12 a1) a2) 34 0 0)) ∧ (¬ (M 10 (M 12 a1) = 0) → Q (.inl (some (.inl 0))) (pm_set (pm_set M 10 (M 12 a1) a2) 34 0 1)))) ∧ (¬ (a1 < M 1 7) → (1 ≤ M 99 0) ∧ Q (.inl (some (.inl 1))) (pm_set M 99 0 (M 99 0 - 1))))))) :
    pm_X L (93, 0, [some (.inr (.inl 0)), some (.inl a1), some (.inl a2), some (.inr (.inl 34)), none], [], M) Q := by
  refine x_aload_n i_93_0 rfl rfl ?_
  refine x_iconst i_93_1 (by decide) rfl ?_
  refine x_aload_n i_93_2 rfl rfl ?_
  refine x_iload_n i_93_3 rfl rfl ?_
  refine x_iload_n i_93_4 rfl rfl ?_
  refine x_callv (as := [.inl a1, .inl a2]) (rest := [.inl 0, .inr (.inl 34)]) i_93_5 k_93_40 rfl rfl rfl g_0 (Nat.le_of_ble_eq_true rfl) m_10 rfl ?_
  refine x_iload_n i_10_0 rfl rfl ?_
  refine x_if (C := a1 < 0) i_10_1 rfl Iff.rfl rfl ⟨fun c1 => ?_, fun c1 => ?_⟩
  · replace h := h.1 c1
    obtain ⟨q2, h⟩ := h
    refine x_throw i_10_15 t_10_101 q2 ?_
    refine x_bkc (h0 := 20) (nx := 22) (i := 4) rfl rfl ?_
    refine x_iconst i_93_22 (by decide) rfl ?_
    exact x_ireti i_93_23 r_93 h
  · replace h := h.2 c1
    refine x_iload_n i_10_4 rfl rfl ?_
    refine x_aload_n i_10_5 rfl rfl ?_
    refine x_getr i_10_6 f_10_12 g_0 rfl rfl ?_
    refine x_geti (v := M 1 7) i_10_9 f_10_45 g_1 rfl (rfl) rfl ?_
    refine x_icmp (C := a1 < M 1 7) i_10_12 rfl Iff.rfl rfl ⟨fun c3 => ?_, fun c3 => ?_⟩
    · replace h := h.1 c3
      refine x_aload_n i_10_25 rfl rfl ?_
      refine x_getr i_10_26 f_10_12 g_0 rfl rfl ?_
      refine x_getr i_10_29 f_10_112 g_1 rfl rfl ?_
      refine x_iload_n i_10_32 rfl rfl ?_
      obtain ⟨q4, h⟩ := h
      refine x_iaload (v := M 12 a1) i_10_33 g_12 (rfl) rfl q4 ?_
      refine x_istore_n i_10_34 (Nat.le_of_ble_eq_true rfl) rfl rfl ?_
      refine x_aload_n i_10_35 rfl rfl ?_
      refine x_getr i_10_36 f_10_12 g_0 rfl rfl ?_
      refine x_getr i_10_39 f_10_115 g_1 rfl rfl ?_
      refine x_iload_n i_10_42 rfl rfl ?_
      obtain ⟨q5, h⟩ := h
      refine x_baload (v := M 10 (M 12 a1)) i_10_43 g_10 (rfl) rfl q5 ?_
      refine x_istore i_10_44 (Nat.le_of_ble_eq_true rfl) rfl rfl ?_
      refine x_aload_n i_10_46 rfl rfl ?_
      refine x_getr i_10_47 f_10_12 g_0 rfl rfl ?_
      refine x_getr i_10_50 f_10_115 g_1 rfl rfl ?_
      refine x_iload_n i_10_53 rfl rfl ?_
      refine x_iload_n i_10_54 rfl rfl ?_
      obtain ⟨q6, h⟩ := h
      refine x_bastore i_10_55 g_10 rfl q6 ?_
      refine x_iload i_10_56 rfl rfl ?_
      obtain ⟨q7, h⟩ := h
      refine x_iretz i_10_58 r_10 q7 ?_
      refine x_bki rfl ?_
      refine x_if (C := M 10 (M 12 a1) = 0) i_93_8 rfl Iff.rfl rfl ⟨fun c8 => ?_, fun c8 => ?_⟩
      · replace h := h.1 c8
        refine x_lconst (y := 0) i_93_15 rfl rfl ?_
        refine x_lastore i_93_16 g_34 rfl (by decide) ?_
        refine x_goto i_93_17 rfl ?_
        refine x_iconst i_93_24 (by decide) rfl ?_
        exact x_ireti i_93_25 r_93 h
      · replace h := h.2 c8
        refine x_lconst (y := 1) i_93_11 rfl rfl ?_
        refine x_goto i_93_12 rfl ?_
        refine x_lastore i_93_16 g_34 rfl (by decide) ?_
        refine x_goto i_93_17 rfl ?_
        refine x_iconst i_93_24 (by decide) rfl ?_
        exact x_ireti i_93_25 r_93 h
    · replace h := h.2 c3
      obtain ⟨q9, h⟩ := h
      refine x_throw i_10_15 t_10_101 q9 ?_
      refine x_bkc (h0 := 20) (nx := 22) (i := 4) rfl rfl ?_
      refine x_iconst i_93_22 (by decide) rfl ?_
      exact x_ireti i_93_23 r_93 h
/-! GateBenchLaw.value at 0 -/
theorem s_94_0 {L : Nat} {M : pm_M} {Q : pm_P} {a1 : Int}
    (h : pm_X L (11, 0, [some (.inr (.inl 0)), some (.inl a1)], [], M) (pm_back (pm_X L) 94 4 [some (.inr (.inl 0)), some (.inl a1), some (.inr (.inl 34)), none] [.inl 0, .inr (.inl 34)] Q)) :
    pm_X L (94, 0, [some (.inr (.inl 0)), some (.inl a1), some (.inr (.inl 34)), none], [], M) Q := by
  refine x_aload_n i_94_0 rfl rfl ?_
  refine x_iconst i_94_1 (by decide) rfl ?_
  refine x_aload_n i_94_2 rfl rfl ?_
  refine x_iload_n i_94_3 rfl rfl ?_
  refine x_callv (as := [.inl a1]) (rest := [.inl 0, .inr (.inl 34)]) i_94_4 k_94_44 rfl rfl rfl g_0 (Nat.le_of_ble_eq_true rfl) m_11 rfl h
/-! GateBenchLaw.value at 7 -/
theorem s_94_7 {L : Nat} {M : pm_M} {Q : pm_P} {a1 r t1 : Int}
    (h : ((r = 0 → (0 ≤ t1 ∧ t1 < 1) ∧ Q (.inl (some (.inl 0))) (pm_set M 34 t1 0)) ∧ (¬ (r = 0) → (0 ≤ t1 ∧ t1 < 1) ∧ Q (.inl (some (.inl 0))) (pm_set M 34 t1 1)))) :
    pm_X L (94, 7, [some (.inr (.inl 0)), some (.inl a1), some (.inr (.inl 34)), none], [.inl r, .inl t1, .inr (.inl 34)], M) Q := by
  refine x_if (C := r = 0) i_94_7 rfl Iff.rfl rfl ⟨fun c1 => ?_, fun c1 => ?_⟩
  · replace h := h.1 c1
    refine x_lconst (y := 0) i_94_14 rfl rfl ?_
    obtain ⟨q2, h⟩ := h
    refine x_lastore i_94_15 g_34 rfl q2 ?_
    refine x_goto i_94_16 rfl ?_
    refine x_iconst i_94_22 (by decide) rfl ?_
    exact x_ireti i_94_23 r_94 h
  · replace h := h.2 c1
    refine x_lconst (y := 1) i_94_10 rfl rfl ?_
    refine x_goto i_94_11 rfl ?_
    obtain ⟨q3, h⟩ := h
    refine x_lastore i_94_15 g_34 rfl q3 ?_
    refine x_goto i_94_16 rfl ?_
    refine x_iconst i_94_22 (by decide) rfl ?_
    exact x_ireti i_94_23 r_94 h
/-! GateBenchLaw.law at 20 -/
theorem s_95_20 {L : Nat} {M : pm_M} {Q : pm_P}
    (h : pm_X L (95, 23, [some (.inr (.inl 35)), some (.inr (.inl 0)), some (.inr (.inl 24)), some (.inr (.inl 34)), some (.inl 0), none, none], [], M) Q) :
    pm_X L (95, 20, [some (.inr (.inl 35)), some (.inr (.inl 0)), some (.inr (.inl 24)), some (.inr (.inl 34)), none, none, none], [], M) Q := by
  refine x_iconst i_95_20 (by decide) rfl ?_
  refine x_istore i_95_21 (Nat.le_of_ble_eq_true rfl) rfl rfl ?_
  exact h
/-! GateBenchLaw.law at 23 -/
theorem s_95_23 {L : Nat} {M : pm_M} {Q : pm_P} {a4 : Int} {o5 o6 : Option pm_V}
    (h : (L ≤ 100000) ∧ (pm_R (((L : Int)) - 4)) ∧ ((((L : Int)) - 4 < a4 → Q (.inl (some (.inl 1))) M) ∧ (¬ (((L : Int)) - 4 < a4) → (0 ≤ a4 ∧ a4 < L) ∧ (((M 35 a4) % 16 = 0 → pm_X L (86, 0, [some (.inr (.inl 0)), some (.inr (.inl 34)), none], [], M) (pm_back (pm_X L) 95 110 [some (.inr (.inl 35)), some (.inr (.inl 0)), some (.inr (.inl 24)), some (.inr (.inl 34)), some (.inl a4), o5, o6] [] Q)) ∧ ((M 35 a4) % 16 = 1 → (pm_R (a4 + 1)) ∧ (0 ≤ a4 + 1 ∧ a4 + 1 < L) ∧ pm_X L (87, 0, [some (.inr (.inl 0)), some (.inl (M 35 (a4 + 1))), some (.inr (.inl 34)), none], [], M) (pm_back (pm_X L) 95 160 [some (.inr (.inl 35)), some (.inr (.inl 0)), some (.inr (.inl 24)), some (.inr (.inl 34)), some (.inl a4), o5, o6] [] Q)) ∧ ((M 35 a4) % 16 = 2 → (pm_R (a4 + 1)) ∧ (0 ≤ a4 + 1 ∧ a4 + 1 < L) ∧ (pm_R (a4 + 2)) ∧ (0 ≤ a4 + 2 ∧ a4 + 2 < L) ∧ (pm_R (a4 + 3)) ∧ (0 ≤ a4 + 3 ∧ a4 + 3 < L) ∧ pm_X L (88, 0, [some (.inr (.inl 0)), some (.inl (M 35 (a4 + 1))), some (.inl (M 35 (a4 + 2))), some (.inl (M 35 (a4 + 3))), some (.inr (.inl 34)), none], [], M) (pm_back (pm_X L) 95 228 [some (.inr (.inl 35)), some (.inr (.inl 0)), some (.inr (.inl 24)), some (.inr (.inl 34)), some (.inl a4), o5, o6] [] Q)) ∧ ((M 35 a4) % 16 = 3 → (pm_R (a4 + 1)) ∧ (0 ≤ a4 + 1 ∧ a4 + 1 < L) ∧ (pm_R (a4 + 2)) ∧ (0 ≤ a4 + 2 ∧ a4 + 2 < L) ∧ (pm_R (a4 + 3)) ∧ (0 ≤ a4 + 3 ∧ a4 + 3 < L) ∧ pm_X L (89, 0, [some (.inr (.inl 0)), some (.inl (M 35 (a4 + 1))), some (.inl (M 35 (a4 + 2))), some (.inl (M 35 (a4 + 3))), some (.inr (.inl 34)), none], [], M) (pm_back (pm_X L) 95 308 [some (.inr (.inl 35)), some (.inr (.inl 0)), some (.inr (.inl 24)), some (.inr (.inl 34)), some (.inl a4), o5, o6] [] Q)) ∧ ((M 35 a4) % 16 = 4 → (pm_R (a4 + 1)) ∧ (0 ≤ a4 + 1 ∧ a4 + 1 < L) ∧ pm_X L (90, 0, [some (.inr (.inl 0)), some (.inl (M 35 (a4 + 1))), some (.inr (.inl 34)), none], [], M) (pm_back (pm_X L) 95 376 [some (.inr (.inl 35)), some (.inr (.inl 0)), some (.inr (.inl 24)), some (.inr (.inl 34)), some (.inl a4), o5, o6] [] Q)) ∧ ((M 35 a4) % 16 = 5 → pm_X L (5, 0, [some (.inr (.inl 0)), none], [], M) (pm_back (pm_X L) 95 425 [some (.inr (.inl 35)), some (.inr (.inl 0)), some (.inr (.inl 24)), some (.inr (.inl 34)), some (.inl a4), o5, o6] [] Q)) ∧ ((M 35 a4) % 16 = 6 → pm_X L (6, 0, [some (.inr (.inl 0)), none], [], M) (pm_back (pm_X L) 95 438 [some (.inr (.inl 35)), some (.inr (.inl 0)), some (.inr (.inl 24)), some (.inr (.inl 34)), some (.inl a4), o5, o6] [] Q)) ∧ ((M 35 a4) % 16 = 7 → pm_X L (7, 0, [some (.inr (.inl 0)), none, none], [], M) (pm_back (pm_X L) 95 451 [some (.inr (.inl 35)), some (.inr (.inl 0)), some (.inr (.inl 24)), some (.inr (.inl 34)), some (.inl a4), o5, o6] [] Q)) ∧ ((M 35 a4) % 16 = 8 → (pm_R (a4 + 1)) ∧ (0 ≤ a4 + 1 ∧ a4 + 1 < L) ∧ pm_X L (91, 0, [some (.inr (.inl 0)), some (.inl (M 35 (a4 + 1))), some (.inr (.inl 34)), none], [], M) (pm_back (pm_X L) 95 471 [some (.inr (.inl 35)), some (.inr (.inl 0)), some (.inr (.inl 24)), some (.inr (.inl 34)), some (.inl a4), o5, o6] [] Q)) ∧ ((M 35 a4) % 16 = 9 → (pm_R (a4 + 1)) ∧ (0 ≤ a4 + 1 ∧ a4 + 1 < L) ∧ (pm_R (a4 + 2)) ∧ (0 ≤ a4 + 2 ∧ a4 + 2 < L) ∧ pm_X L (92, 0, [some (.inr (.inl 0)), some (.inl (M 35 (a4 + 1))), some (.inl (M 35 (a4 + 2))), some (.inr (.inl 34)), none], [], M) (pm_back (pm_X L) 95 533 [some (.inr (.inl 35)), some (.inr (.inl 0)), some (.inr (.inl 24)), some (.inr (.inl 34)), some (.inl a4), o5, o6] [] Q)) ∧ ((M 35 a4) % 16 = 10 → (pm_R (a4 + 1)) ∧ (0 ≤ a4 + 1 ∧ a4 + 1 < L) ∧ (pm_R (a4 + 2)) ∧ (0 ≤ a4 + 2 ∧ a4 + 2 < L) ∧ ((M 35 (a4 + 2) = 0 → pm_X L (93, 0, [some (.inr (.inl 0)), some (.inl (M 35 (a4 + 1))), some (.inl 0), some (.inr (.inl 34)), none], [], M) (pm_back (pm_X L) 95 616 [some (.inr (.inl 35)), some (.inr (.inl 0)), some (.inr (.inl 24)), some (.inr (.inl 34)), some (.inl a4), o5, o6] [] Q)) ∧ (¬ (M 35 (a4 + 2) = 0) → pm_X L (93, 0, [some (.inr (.inl 0)), some (.inl (M 35 (a4 + 1))), some (.inl 1), some (.inr (.inl 34)), none], [], M) (pm_back (pm_X L) 95 616 [some (.inr (.inl 35)), some (.inr (.inl 0)), some (.inr (.inl 24)), some (.inr (.inl 34)), some (.inl a4), o5, o6] [] Q)))) ∧ ((M 35 a4) % 16 = 11 → (pm_R (a4 + 1)) ∧ (0 ≤ a4 + 1 ∧ a4 + 1 < L) ∧ pm_X L (94, 0, [some (.inr (.inl 0)), some (.inl (M 35 (a4 + 1))), some (.inr (.inl 34)), none], [], M) (pm_back (pm_X L) 95 693 [some (.inr (.inl 35)), some (.inr (.inl 0)), some (.inr (.inl 24)), some (.inr (.inl 34)), some (.inl a4), o5, o6] [] Q)) ∧ ((M 35 a4) % 16 = 12 → pm_X L (12, 0, [some (.inr (.inl 0))], [], M) (pm_back (pm_X L) 95 749 [some (.inr (.inl 35)), some (.inr (.inl 0)), some (.inr (.inl 24)), some (.inr (.inl 34)), some (.inl a4), o5, o6] [] Q)) ∧ ((M 35 a4) % 16 = 13 → (pm_R (a4 + 1)) ∧ (0 ≤ a4 + 1 ∧ a4 + 1 < L) ∧ pm_X L (13, 0, [some (.inr (.inl 0)), some (.inl (M 35 (a4 + 1)))], [], M) (pm_back (pm_X L) 95 768 [some (.inr (.inl 35)), some (.inr (.inl 0)), some (.inr (.inl 24)), some (.inr (.inl 34)), some (.inl a4), o5, o6] [] Q)) ∧ (((M 35 a4) % 16 < 0 ∨ 13 < (M 35 a4) % 16) → (pm_R (a4 + 4)) ∧ pm_X L (95, 23, [some (.inr (.inl 35)), some (.inr (.inl 0)), some (.inr (.inl 24)), some (.inr (.inl 34)), some (.inl (a4 + 4)), o5, o6], [], M) Q))))) :
    pm_X L (95, 23, [some (.inr (.inl 35)), some (.inr (.inl 0)), some (.inr (.inl 24)), some (.inr (.inl 34)), some (.inl a4), o5, o6], [], M) Q := by
  refine x_iload i_95_23 rfl rfl ?_
  refine x_aload_n i_95_25 rfl rfl ?_
  obtain ⟨q1, h⟩ := h
  refine x_alen i_95_26 g_35 rfl q1 ?_
  refine x_iconst i_95_27 (by decide) rfl ?_
  obtain ⟨q2, h⟩ := h
  refine x_isub i_95_28 rfl q2 ?_
  refine x_icmp (C := ((L : Int)) - 4 < a4) i_95_29 rfl Iff.rfl rfl ⟨fun c3 => ?_, fun c3 => ?_⟩
  · replace h := h.1 c3
    refine x_iconst i_95_792 (by decide) rfl ?_
    exact x_iretz i_95_793 r_95 (by unfold pm_bit; decide) h
  · replace h := h.2 c3
    refine x_aload_n i_95_32 rfl rfl ?_
    refine x_iload i_95_33 rfl rfl ?_
    obtain ⟨q4, h⟩ := h
    refine x_iaload (v := M 35 a4) i_95_35 g_35 (rfl) rfl q4 ?_
    refine x_bipush i_95_36 (by decide) rfl ?_
    refine x_iand15 i_95_38 rfl ?_
    rcases (by omega : (M 35 a4) % 16 = 0 ∨ (M 35 a4) % 16 = 1 ∨ (M 35 a4) % 16 = 2 ∨ (M 35 a4) % 16 = 3 ∨ (M 35 a4) % 16 = 4 ∨ (M 35 a4) % 16 = 5 ∨ (M 35 a4) % 16 = 6 ∨ (M 35 a4) % 16 = 7 ∨ (M 35 a4) % 16 = 8 ∨ (M 35 a4) % 16 = 9 ∨ (M 35 a4) % 16 = 10 ∨ (M 35 a4) % 16 = 11 ∨ (M 35 a4) % 16 = 12 ∨ (M 35 a4) % 16 = 13 ∨ ((M 35 a4) % 16 < 0 ∨ 13 < (M 35 a4) % 16)) with c5 | c5 | c5 | c5 | c5 | c5 | c5 | c5 | c5 | c5 | c5 | c5 | c5 | c5 | c5
    · replace h := h.1 c5
      refine x_swV i_95_39 c5 (by decide) rfl rfl ?_
      refine x_aload_n i_95_108 rfl rfl ?_
      refine x_aload_n i_95_109 rfl rfl ?_
      refine x_calls (as := [.inr (.inl 0), .inr (.inl 34)]) (rest := []) i_95_110 k_95_52 rfl rfl rfl (Nat.le_of_ble_eq_true rfl) m_86 rfl h
    · replace h := h.2.1 c5
      refine x_swV i_95_39 c5 (by decide) rfl rfl ?_
      refine x_aload_n i_95_152 rfl rfl ?_
      refine x_aload_n i_95_153 rfl rfl ?_
      refine x_iload i_95_154 rfl rfl ?_
      refine x_iconst i_95_156 (by decide) rfl ?_
      obtain ⟨q6, h⟩ := h
      refine x_iadd i_95_157 rfl q6 ?_
      obtain ⟨q7, h⟩ := h
      refine x_iaload (v := M 35 (a4 + 1)) i_95_158 g_35 (rfl) rfl q7 ?_
      refine x_aload_n i_95_159 rfl rfl ?_
      refine x_calls (as := [.inr (.inl 0), .inl (M 35 (a4 + 1)), .inr (.inl 34)]) (rest := []) i_95_160 k_95_61 rfl rfl rfl (Nat.le_of_ble_eq_true rfl) m_87 rfl h
    · replace h := h.2.2.1 c5
      refine x_swV i_95_39 c5 (by decide) rfl rfl ?_
      refine x_aload_n i_95_208 rfl rfl ?_
      refine x_aload_n i_95_209 rfl rfl ?_
      refine x_iload i_95_210 rfl rfl ?_
      refine x_iconst i_95_212 (by decide) rfl ?_
      obtain ⟨q8, h⟩ := h
      refine x_iadd i_95_213 rfl q8 ?_
      obtain ⟨q9, h⟩ := h
      refine x_iaload (v := M 35 (a4 + 1)) i_95_214 g_35 (rfl) rfl q9 ?_
      refine x_aload_n i_95_215 rfl rfl ?_
      refine x_iload i_95_216 rfl rfl ?_
      refine x_iconst i_95_218 (by decide) rfl ?_
      obtain ⟨q10, h⟩ := h
      refine x_iadd i_95_219 rfl q10 ?_
      obtain ⟨q11, h⟩ := h
      refine x_iaload (v := M 35 (a4 + 2)) i_95_220 g_35 (rfl) rfl q11 ?_
      refine x_aload_n i_95_221 rfl rfl ?_
      refine x_iload i_95_222 rfl rfl ?_
      refine x_iconst i_95_224 (by decide) rfl ?_
      obtain ⟨q12, h⟩ := h
      refine x_iadd i_95_225 rfl q12 ?_
      obtain ⟨q13, h⟩ := h
      refine x_iaload (v := M 35 (a4 + 3)) i_95_226 g_35 (rfl) rfl q13 ?_
      refine x_aload_n i_95_227 rfl rfl ?_
      refine x_calls (as := [.inr (.inl 0), .inl (M 35 (a4 + 1)), .inl (M 35 (a4 + 2)), .inl (M 35 (a4 + 3)), .inr (.inl 34)]) (rest := []) i_95_228 k_95_65 rfl rfl rfl (Nat.le_of_ble_eq_true rfl) m_88 rfl h
    · replace h := h.2.2.2.1 c5
      refine x_swV i_95_39 c5 (by decide) rfl rfl ?_
      refine x_aload_n i_95_288 rfl rfl ?_
      refine x_aload_n i_95_289 rfl rfl ?_
      refine x_iload i_95_290 rfl rfl ?_
      refine x_iconst i_95_292 (by decide) rfl ?_
      obtain ⟨q14, h⟩ := h
      refine x_iadd i_95_293 rfl q14 ?_
      obtain ⟨q15, h⟩ := h
      refine x_iaload (v := M 35 (a4 + 1)) i_95_294 g_35 (rfl) rfl q15 ?_
      refine x_aload_n i_95_295 rfl rfl ?_
      refine x_iload i_95_296 rfl rfl ?_
      refine x_iconst i_95_298 (by decide) rfl ?_
      obtain ⟨q16, h⟩ := h
      refine x_iadd i_95_299 rfl q16 ?_
      obtain ⟨q17, h⟩ := h
      refine x_iaload (v := M 35 (a4 + 2)) i_95_300 g_35 (rfl) rfl q17 ?_
      refine x_aload_n i_95_301 rfl rfl ?_
      refine x_iload i_95_302 rfl rfl ?_
      refine x_iconst i_95_304 (by decide) rfl ?_
      obtain ⟨q18, h⟩ := h
      refine x_iadd i_95_305 rfl q18 ?_
      obtain ⟨q19, h⟩ := h
      refine x_iaload (v := M 35 (a4 + 3)) i_95_306 g_35 (rfl) rfl q19 ?_
      refine x_aload_n i_95_307 rfl rfl ?_
      refine x_calls (as := [.inr (.inl 0), .inl (M 35 (a4 + 1)), .inl (M 35 (a4 + 2)), .inl (M 35 (a4 + 3)), .inr (.inl 34)]) (rest := []) i_95_308 k_95_69 rfl rfl rfl (Nat.le_of_ble_eq_true rfl) m_89 rfl h
    · replace h := h.2.2.2.2.1 c5
      refine x_swV i_95_39 c5 (by decide) rfl rfl ?_
      refine x_aload_n i_95_368 rfl rfl ?_
      refine x_aload_n i_95_369 rfl rfl ?_
      refine x_iload i_95_370 rfl rfl ?_
      refine x_iconst i_95_372 (by decide) rfl ?_
      obtain ⟨q20, h⟩ := h
      refine x_iadd i_95_373 rfl q20 ?_
      obtain ⟨q21, h⟩ := h
      refine x_iaload (v := M 35 (a4 + 1)) i_95_374 g_35 (rfl) rfl q21 ?_
      refine x_aload_n i_95_375 rfl rfl ?_
      refine x_calls (as := [.inr (.inl 0), .inl (M 35 (a4 + 1)), .inr (.inl 34)]) (rest := []) i_95_376 k_95_72 rfl rfl rfl (Nat.le_of_ble_eq_true rfl) m_90 rfl h
    · replace h := h.2.2.2.2.2.1 c5
      refine x_swV i_95_39 c5 (by decide) rfl rfl ?_
      refine x_aload_n i_95_424 rfl rfl ?_
      refine x_callv (as := []) (rest := []) i_95_425 k_95_75 rfl rfl rfl g_0 (Nat.le_of_ble_eq_true rfl) m_5 rfl h
    · replace h := h.2.2.2.2.2.2.1 c5
      refine x_swV i_95_39 c5 (by decide) rfl rfl ?_
      refine x_aload_n i_95_437 rfl rfl ?_
      refine x_callv (as := []) (rest := []) i_95_438 k_95_79 rfl rfl rfl g_0 (Nat.le_of_ble_eq_true rfl) m_6 rfl h
    · replace h := h.2.2.2.2.2.2.2.1 c5
      refine x_swV i_95_39 c5 (by decide) rfl rfl ?_
      refine x_aload_n i_95_450 rfl rfl ?_
      refine x_callv (as := []) (rest := []) i_95_451 k_95_84 rfl rfl rfl g_0 (Nat.le_of_ble_eq_true rfl) m_7 rfl h
    · replace h := h.2.2.2.2.2.2.2.2.1 c5
      refine x_swV i_95_39 c5 (by decide) rfl rfl ?_
      refine x_aload_n i_95_463 rfl rfl ?_
      refine x_aload_n i_95_464 rfl rfl ?_
      refine x_iload i_95_465 rfl rfl ?_
      refine x_iconst i_95_467 (by decide) rfl ?_
      obtain ⟨q22, h⟩ := h
      refine x_iadd i_95_468 rfl q22 ?_
      obtain ⟨q23, h⟩ := h
      refine x_iaload (v := M 35 (a4 + 1)) i_95_469 g_35 (rfl) rfl q23 ?_
      refine x_aload_n i_95_470 rfl rfl ?_
      refine x_calls (as := [.inr (.inl 0), .inl (M 35 (a4 + 1)), .inr (.inl 34)]) (rest := []) i_95_471 k_95_88 rfl rfl rfl (Nat.le_of_ble_eq_true rfl) m_91 rfl h
    · replace h := h.2.2.2.2.2.2.2.2.2.1 c5
      refine x_swV i_95_39 c5 (by decide) rfl rfl ?_
      refine x_aload_n i_95_519 rfl rfl ?_
      refine x_aload_n i_95_520 rfl rfl ?_
      refine x_iload i_95_521 rfl rfl ?_
      refine x_iconst i_95_523 (by decide) rfl ?_
      obtain ⟨q24, h⟩ := h
      refine x_iadd i_95_524 rfl q24 ?_
      obtain ⟨q25, h⟩ := h
      refine x_iaload (v := M 35 (a4 + 1)) i_95_525 g_35 (rfl) rfl q25 ?_
      refine x_aload_n i_95_526 rfl rfl ?_
      refine x_iload i_95_527 rfl rfl ?_
      refine x_iconst i_95_529 (by decide) rfl ?_
      obtain ⟨q26, h⟩ := h
      refine x_iadd i_95_530 rfl q26 ?_
      obtain ⟨q27, h⟩ := h
      refine x_iaload (v := M 35 (a4 + 2)) i_95_531 g_35 (rfl) rfl q27 ?_
      refine x_aload_n i_95_532 rfl rfl ?_
      refine x_calls (as := [.inr (.inl 0), .inl (M 35 (a4 + 1)), .inl (M 35 (a4 + 2)), .inr (.inl 34)]) (rest := []) i_95_533 k_95_91 rfl rfl rfl (Nat.le_of_ble_eq_true rfl) m_92 rfl h
    · replace h := h.2.2.2.2.2.2.2.2.2.2.1 c5
      refine x_swV i_95_39 c5 (by decide) rfl rfl ?_
      refine x_aload_n i_95_594 rfl rfl ?_
      refine x_aload_n i_95_595 rfl rfl ?_
      refine x_iload i_95_596 rfl rfl ?_
      refine x_iconst i_95_598 (by decide) rfl ?_
      obtain ⟨q28, h⟩ := h
      refine x_iadd i_95_599 rfl q28 ?_
      obtain ⟨q29, h⟩ := h
      refine x_iaload (v := M 35 (a4 + 1)) i_95_600 g_35 (rfl) rfl q29 ?_
      refine x_aload_n i_95_601 rfl rfl ?_
      refine x_iload i_95_602 rfl rfl ?_
      refine x_iconst i_95_604 (by decide) rfl ?_
      obtain ⟨q30, h⟩ := h
      refine x_iadd i_95_605 rfl q30 ?_
      obtain ⟨q31, h⟩ := h
      refine x_iaload (v := M 35 (a4 + 2)) i_95_606 g_35 (rfl) rfl q31 ?_
      refine x_if (C := M 35 (a4 + 2) = 0) i_95_607 rfl Iff.rfl rfl ⟨fun c32 => ?_, fun c32 => ?_⟩
      · replace h := h.1 c32
        refine x_iconst i_95_614 (by decide) rfl ?_
        refine x_aload_n i_95_615 rfl rfl ?_
        refine x_calls (as := [.inr (.inl 0), .inl (M 35 (a4 + 1)), .inl 0, .inr (.inl 34)]) (rest := []) i_95_616 k_95_95 rfl rfl rfl (Nat.le_of_ble_eq_true rfl) m_93 rfl h
      · replace h := h.2 c32
        refine x_iconst i_95_610 (by decide) rfl ?_
        refine x_goto i_95_611 rfl ?_
        refine x_aload_n i_95_615 rfl rfl ?_
        refine x_calls (as := [.inr (.inl 0), .inl (M 35 (a4 + 1)), .inl 1, .inr (.inl 34)]) (rest := []) i_95_616 k_95_95 rfl rfl rfl (Nat.le_of_ble_eq_true rfl) m_93 rfl h
    · replace h := h.2.2.2.2.2.2.2.2.2.2.2.1 c5
      refine x_swV i_95_39 c5 (by decide) rfl rfl ?_
      refine x_aload_n i_95_685 rfl rfl ?_
      refine x_aload_n i_95_686 rfl rfl ?_
      refine x_iload i_95_687 rfl rfl ?_
      refine x_iconst i_95_689 (by decide) rfl ?_
      obtain ⟨q33, h⟩ := h
      refine x_iadd i_95_690 rfl q33 ?_
      obtain ⟨q34, h⟩ := h
      refine x_iaload (v := M 35 (a4 + 1)) i_95_691 g_35 (rfl) rfl q34 ?_
      refine x_aload_n i_95_692 rfl rfl ?_
      refine x_calls (as := [.inr (.inl 0), .inl (M 35 (a4 + 1)), .inr (.inl 34)]) (rest := []) i_95_693 k_95_99 rfl rfl rfl (Nat.le_of_ble_eq_true rfl) m_94 rfl h
    · replace h := h.2.2.2.2.2.2.2.2.2.2.2.2.1 c5
      refine x_swV i_95_39 c5 (by decide) rfl rfl ?_
      refine x_aload_n i_95_748 rfl rfl ?_
      refine x_callv (as := []) (rest := []) i_95_749 k_95_102 rfl rfl rfl g_0 (Nat.le_of_ble_eq_true rfl) m_12 rfl h
    · replace h := h.2.2.2.2.2.2.2.2.2.2.2.2.2.1 c5
      refine x_swV i_95_39 c5 (by decide) rfl rfl ?_
      refine x_aload_n i_95_761 rfl rfl ?_
      refine x_aload_n i_95_762 rfl rfl ?_
      refine x_iload i_95_763 rfl rfl ?_
      refine x_iconst i_95_765 (by decide) rfl ?_
      obtain ⟨q35, h⟩ := h
      refine x_iadd i_95_766 rfl q35 ?_
      obtain ⟨q36, h⟩ := h
      refine x_iaload (v := M 35 (a4 + 1)) i_95_767 g_35 (rfl) rfl q36 ?_
      refine x_callv (as := [.inl (M 35 (a4 + 1))]) (rest := []) i_95_768 k_95_106 rfl rfl rfl g_0 (Nat.le_of_ble_eq_true rfl) m_13 rfl h
    · replace h := h.2.2.2.2.2.2.2.2.2.2.2.2.2.2 c5
      refine x_swO i_95_39 rfl c5 ?_
      obtain ⟨q37, h⟩ := h
      refine x_iinc i_95_786 rfl (by decide) rfl rfl q37 ?_
      refine x_goto i_95_789 rfl ?_
      exact h
/-! GateBenchLaw.law at 113 -/
theorem s_95_113 {L : Nat} {M : pm_M} {Q : pm_P} {a4 r : Int} {o5 o6 : Option pm_V}
    (h : pm_X L (67, 0, [some (.inr (.inl 24))], [], M) (pm_back (pm_X L) 95 116 [some (.inr (.inl 35)), some (.inr (.inl 0)), some (.inr (.inl 24)), some (.inr (.inl 34)), some (.inl a4), some (.inl r), o6] [] Q)) :
    pm_X L (95, 113, [some (.inr (.inl 35)), some (.inr (.inl 0)), some (.inr (.inl 24)), some (.inr (.inl 34)), some (.inl a4), o5, o6], [.inl r], M) Q := by
  refine x_istore i_95_113 (Nat.le_of_ble_eq_true rfl) rfl rfl ?_
  refine x_aload_n i_95_115 rfl rfl ?_
  refine x_callv (as := []) (rest := []) i_95_116 k_95_57 rfl rfl rfl g_24 (Nat.le_of_ble_eq_true rfl) m_67 rfl h
/-! GateBenchLaw.law at 119 -/
theorem s_95_119 {L : Nat} {M : pm_M} {Q : pm_P} {a4 a5 r : Int} {o6 : Option pm_V}
    (h : ((M 24 0 = a5 → ((¬ a5 = 0 → (pm_R (a4 + 4)) ∧ pm_X L (95, 23, [some (.inr (.inl 35)), some (.inr (.inl 0)), some (.inr (.inl 24)), some (.inr (.inl 34)), some (.inl (a4 + 4)), some (.inl a5), some (.inl r)], [], M) Q) ∧ (¬ (¬ a5 = 0) → (((if M 34 0 < r then -1 else if M 34 0 = r then 0 else 1) = 0 → (pm_R (a4 + 4)) ∧ pm_X L (95, 23, [some (.inr (.inl 35)), some (.inr (.inl 0)), some (.inr (.inl 24)), some (.inr (.inl 34)), some (.inl (a4 + 4)), some (.inl a5), some (.inl r)], [], M) Q) ∧ (¬ ((if M 34 0 < r then -1 else if M 34 0 = r then 0 else 1) = 0) → Q (.inl (some (.inl 0))) M))))) ∧ (¬ (M 24 0 = a5) → Q (.inl (some (.inl 0))) M))) :
    pm_X L (95, 119, [some (.inr (.inl 35)), some (.inr (.inl 0)), some (.inr (.inl 24)), some (.inr (.inl 34)), some (.inl a4), some (.inl a5), o6], [.inl r], M) Q := by
  refine x_istore i_95_119 (Nat.le_of_ble_eq_true rfl) rfl rfl ?_
  refine x_aload_n i_95_121 rfl rfl ?_
  refine x_callv (as := []) (rest := []) i_95_122 k_95_58 rfl rfl rfl g_24 (Nat.le_of_ble_eq_true rfl) m_63 rfl ?_
  refine x_aload_n i_63_0 rfl rfl ?_
  refine x_geti (v := M 24 0) i_63_1 f_63_7 g_24 rfl (rfl) rfl ?_
  refine x_ireti i_63_4 r_63 ?_
  refine x_bki rfl ?_
  refine x_iload i_95_125 rfl rfl ?_
  refine x_icmp (C := M 24 0 = a5) i_95_127 rfl Iff.rfl rfl ⟨fun c1 => ?_, fun c1 => ?_⟩
  · replace h := h.1 c1
    refine x_iload i_95_132 rfl rfl ?_
    refine x_if (C := ¬ a5 = 0) i_95_134 rfl Iff.rfl rfl ⟨fun c2 => ?_, fun c2 => ?_⟩
    · replace h := h.1 c2
      refine x_goto i_95_149 rfl ?_
      obtain ⟨q3, h⟩ := h
      refine x_iinc i_95_786 rfl (by decide) rfl rfl q3 ?_
      refine x_goto i_95_789 rfl ?_
      exact h
    · replace h := h.2 c2
      refine x_aload_n i_95_137 rfl rfl ?_
      refine x_iconst i_95_138 (by decide) rfl ?_
      refine x_laload (v := M 34 0) i_95_139 g_34 (rfl) rfl (by decide) ?_
      refine x_iload i_95_140 rfl rfl ?_
      refine x_i2l i_95_142 rfl ?_
      refine x_lcmp i_95_143 rfl ?_
      refine x_if (C := (if M 34 0 < r then -1 else if M 34 0 = r then 0 else 1) = 0) i_95_144 rfl Iff.rfl rfl ⟨fun c4 => ?_, fun c4 => ?_⟩
      · replace h := h.1 c4
        refine x_goto i_95_149 rfl ?_
        obtain ⟨q5, h⟩ := h
        refine x_iinc i_95_786 rfl (by decide) rfl rfl q5 ?_
        refine x_goto i_95_789 rfl ?_
        exact h
      · replace h := h.2 c4
        refine x_iconst i_95_147 (by decide) rfl ?_
        exact x_iretz i_95_148 r_95 (by unfold pm_bit; decide) h
  · replace h := h.2 c1
    refine x_iconst i_95_130 (by decide) rfl ?_
    exact x_iretz i_95_131 r_95 (by unfold pm_bit; decide) h
/-! GateBenchLaw.law at 163 -/
theorem s_95_163 {L : Nat} {M : pm_M} {Q : pm_P} {a4 r : Int} {o5 o6 : Option pm_V}
    (h : (pm_R (a4 + 1)) ∧ (0 ≤ a4 + 1 ∧ a4 + 1 < L) ∧ pm_X L (68, 0, [some (.inr (.inl 24)), some (.inl (M 35 (a4 + 1)))], [], M) (pm_back (pm_X L) 95 172 [some (.inr (.inl 35)), some (.inr (.inl 0)), some (.inr (.inl 24)), some (.inr (.inl 34)), some (.inl a4), some (.inl r), o6] [] Q)) :
    pm_X L (95, 163, [some (.inr (.inl 35)), some (.inr (.inl 0)), some (.inr (.inl 24)), some (.inr (.inl 34)), some (.inl a4), o5, o6], [.inl r], M) Q := by
  refine x_istore i_95_163 (Nat.le_of_ble_eq_true rfl) rfl rfl ?_
  refine x_aload_n i_95_165 rfl rfl ?_
  refine x_aload_n i_95_166 rfl rfl ?_
  refine x_iload i_95_167 rfl rfl ?_
  refine x_iconst i_95_169 (by decide) rfl ?_
  obtain ⟨q1, h⟩ := h
  refine x_iadd i_95_170 rfl q1 ?_
  obtain ⟨q2, h⟩ := h
  refine x_iaload (v := M 35 (a4 + 1)) i_95_171 g_35 (rfl) rfl q2 ?_
  refine x_callv (as := [.inl (M 35 (a4 + 1))]) (rest := []) i_95_172 k_95_64 rfl rfl rfl g_24 (Nat.le_of_ble_eq_true rfl) m_68 rfl h
/-! GateBenchLaw.law at 175 -/
theorem s_95_175 {L : Nat} {M : pm_M} {Q : pm_P} {a4 a5 r : Int} {o6 : Option pm_V}
    (h : ((M 24 0 = a5 → ((¬ a5 = 0 → (pm_R (a4 + 4)) ∧ pm_X L (95, 23, [some (.inr (.inl 35)), some (.inr (.inl 0)), some (.inr (.inl 24)), some (.inr (.inl 34)), some (.inl (a4 + 4)), some (.inl a5), some (.inl r)], [], M) Q) ∧ (¬ (¬ a5 = 0) → (((if M 34 0 < r then -1 else if M 34 0 = r then 0 else 1) = 0 → (pm_R (a4 + 4)) ∧ pm_X L (95, 23, [some (.inr (.inl 35)), some (.inr (.inl 0)), some (.inr (.inl 24)), some (.inr (.inl 34)), some (.inl (a4 + 4)), some (.inl a5), some (.inl r)], [], M) Q) ∧ (¬ ((if M 34 0 < r then -1 else if M 34 0 = r then 0 else 1) = 0) → Q (.inl (some (.inl 0))) M))))) ∧ (¬ (M 24 0 = a5) → Q (.inl (some (.inl 0))) M))) :
    pm_X L (95, 175, [some (.inr (.inl 35)), some (.inr (.inl 0)), some (.inr (.inl 24)), some (.inr (.inl 34)), some (.inl a4), some (.inl a5), o6], [.inl r], M) Q := by
  refine x_istore i_95_175 (Nat.le_of_ble_eq_true rfl) rfl rfl ?_
  refine x_aload_n i_95_177 rfl rfl ?_
  refine x_callv (as := []) (rest := []) i_95_178 k_95_58 rfl rfl rfl g_24 (Nat.le_of_ble_eq_true rfl) m_63 rfl ?_
  refine x_aload_n i_63_0 rfl rfl ?_
  refine x_geti (v := M 24 0) i_63_1 f_63_7 g_24 rfl (rfl) rfl ?_
  refine x_ireti i_63_4 r_63 ?_
  refine x_bki rfl ?_
  refine x_iload i_95_181 rfl rfl ?_
  refine x_icmp (C := M 24 0 = a5) i_95_183 rfl Iff.rfl rfl ⟨fun c1 => ?_, fun c1 => ?_⟩
  · replace h := h.1 c1
    refine x_iload i_95_188 rfl rfl ?_
    refine x_if (C := ¬ a5 = 0) i_95_190 rfl Iff.rfl rfl ⟨fun c2 => ?_, fun c2 => ?_⟩
    · replace h := h.1 c2
      refine x_goto i_95_205 rfl ?_
      obtain ⟨q3, h⟩ := h
      refine x_iinc i_95_786 rfl (by decide) rfl rfl q3 ?_
      refine x_goto i_95_789 rfl ?_
      exact h
    · replace h := h.2 c2
      refine x_aload_n i_95_193 rfl rfl ?_
      refine x_iconst i_95_194 (by decide) rfl ?_
      refine x_laload (v := M 34 0) i_95_195 g_34 (rfl) rfl (by decide) ?_
      refine x_iload i_95_196 rfl rfl ?_
      refine x_i2l i_95_198 rfl ?_
      refine x_lcmp i_95_199 rfl ?_
      refine x_if (C := (if M 34 0 < r then -1 else if M 34 0 = r then 0 else 1) = 0) i_95_200 rfl Iff.rfl rfl ⟨fun c4 => ?_, fun c4 => ?_⟩
      · replace h := h.1 c4
        refine x_goto i_95_205 rfl ?_
        obtain ⟨q5, h⟩ := h
        refine x_iinc i_95_786 rfl (by decide) rfl rfl q5 ?_
        refine x_goto i_95_789 rfl ?_
        exact h
      · replace h := h.2 c4
        refine x_iconst i_95_203 (by decide) rfl ?_
        exact x_iretz i_95_204 r_95 (by unfold pm_bit; decide) h
  · replace h := h.2 c1
    refine x_iconst i_95_186 (by decide) rfl ?_
    exact x_iretz i_95_187 r_95 (by unfold pm_bit; decide) h
/-! GateBenchLaw.law at 231 -/
theorem s_95_231 {L : Nat} {M : pm_M} {Q : pm_P} {a4 r : Int} {o5 o6 : Option pm_V}
    (h : (pm_R (a4 + 1)) ∧ (0 ≤ a4 + 1 ∧ a4 + 1 < L) ∧ (pm_R (a4 + 2)) ∧ (0 ≤ a4 + 2 ∧ a4 + 2 < L) ∧ (pm_R (a4 + 3)) ∧ (0 ≤ a4 + 3 ∧ a4 + 3 < L) ∧ pm_X L (69, 0, [some (.inr (.inl 24)), some (.inl (M 35 (a4 + 1))), some (.inl (M 35 (a4 + 2))), some (.inl (M 35 (a4 + 3)))], [], M) (pm_back (pm_X L) 95 252 [some (.inr (.inl 35)), some (.inr (.inl 0)), some (.inr (.inl 24)), some (.inr (.inl 34)), some (.inl a4), some (.inl r), o6] [] Q)) :
    pm_X L (95, 231, [some (.inr (.inl 35)), some (.inr (.inl 0)), some (.inr (.inl 24)), some (.inr (.inl 34)), some (.inl a4), o5, o6], [.inl r], M) Q := by
  refine x_istore i_95_231 (Nat.le_of_ble_eq_true rfl) rfl rfl ?_
  refine x_aload_n i_95_233 rfl rfl ?_
  refine x_aload_n i_95_234 rfl rfl ?_
  refine x_iload i_95_235 rfl rfl ?_
  refine x_iconst i_95_237 (by decide) rfl ?_
  obtain ⟨q1, h⟩ := h
  refine x_iadd i_95_238 rfl q1 ?_
  obtain ⟨q2, h⟩ := h
  refine x_iaload (v := M 35 (a4 + 1)) i_95_239 g_35 (rfl) rfl q2 ?_
  refine x_aload_n i_95_240 rfl rfl ?_
  refine x_iload i_95_241 rfl rfl ?_
  refine x_iconst i_95_243 (by decide) rfl ?_
  obtain ⟨q3, h⟩ := h
  refine x_iadd i_95_244 rfl q3 ?_
  obtain ⟨q4, h⟩ := h
  refine x_iaload (v := M 35 (a4 + 2)) i_95_245 g_35 (rfl) rfl q4 ?_
  refine x_aload_n i_95_246 rfl rfl ?_
  refine x_iload i_95_247 rfl rfl ?_
  refine x_iconst i_95_249 (by decide) rfl ?_
  obtain ⟨q5, h⟩ := h
  refine x_iadd i_95_250 rfl q5 ?_
  obtain ⟨q6, h⟩ := h
  refine x_iaload (v := M 35 (a4 + 3)) i_95_251 g_35 (rfl) rfl q6 ?_
  refine x_callv (as := [.inl (M 35 (a4 + 1)), .inl (M 35 (a4 + 2)), .inl (M 35 (a4 + 3))]) (rest := []) i_95_252 k_95_68 rfl rfl rfl g_24 (Nat.le_of_ble_eq_true rfl) m_69 rfl h
/-! GateBenchLaw.law at 255 -/
theorem s_95_255 {L : Nat} {M : pm_M} {Q : pm_P} {a4 a5 r : Int} {o6 : Option pm_V}
    (h : ((M 24 0 = a5 → ((¬ a5 = 0 → (pm_R (a4 + 4)) ∧ pm_X L (95, 23, [some (.inr (.inl 35)), some (.inr (.inl 0)), some (.inr (.inl 24)), some (.inr (.inl 34)), some (.inl (a4 + 4)), some (.inl a5), some (.inl r)], [], M) Q) ∧ (¬ (¬ a5 = 0) → (((if M 34 0 < r then -1 else if M 34 0 = r then 0 else 1) = 0 → (pm_R (a4 + 4)) ∧ pm_X L (95, 23, [some (.inr (.inl 35)), some (.inr (.inl 0)), some (.inr (.inl 24)), some (.inr (.inl 34)), some (.inl (a4 + 4)), some (.inl a5), some (.inl r)], [], M) Q) ∧ (¬ ((if M 34 0 < r then -1 else if M 34 0 = r then 0 else 1) = 0) → Q (.inl (some (.inl 0))) M))))) ∧ (¬ (M 24 0 = a5) → Q (.inl (some (.inl 0))) M))) :
    pm_X L (95, 255, [some (.inr (.inl 35)), some (.inr (.inl 0)), some (.inr (.inl 24)), some (.inr (.inl 34)), some (.inl a4), some (.inl a5), o6], [.inl r], M) Q := by
  refine x_istore i_95_255 (Nat.le_of_ble_eq_true rfl) rfl rfl ?_
  refine x_aload_n i_95_257 rfl rfl ?_
  refine x_callv (as := []) (rest := []) i_95_258 k_95_58 rfl rfl rfl g_24 (Nat.le_of_ble_eq_true rfl) m_63 rfl ?_
  refine x_aload_n i_63_0 rfl rfl ?_
  refine x_geti (v := M 24 0) i_63_1 f_63_7 g_24 rfl (rfl) rfl ?_
  refine x_ireti i_63_4 r_63 ?_
  refine x_bki rfl ?_
  refine x_iload i_95_261 rfl rfl ?_
  refine x_icmp (C := M 24 0 = a5) i_95_263 rfl Iff.rfl rfl ⟨fun c1 => ?_, fun c1 => ?_⟩
  · replace h := h.1 c1
    refine x_iload i_95_268 rfl rfl ?_
    refine x_if (C := ¬ a5 = 0) i_95_270 rfl Iff.rfl rfl ⟨fun c2 => ?_, fun c2 => ?_⟩
    · replace h := h.1 c2
      refine x_goto i_95_285 rfl ?_
      obtain ⟨q3, h⟩ := h
      refine x_iinc i_95_786 rfl (by decide) rfl rfl q3 ?_
      refine x_goto i_95_789 rfl ?_
      exact h
    · replace h := h.2 c2
      refine x_aload_n i_95_273 rfl rfl ?_
      refine x_iconst i_95_274 (by decide) rfl ?_
      refine x_laload (v := M 34 0) i_95_275 g_34 (rfl) rfl (by decide) ?_
      refine x_iload i_95_276 rfl rfl ?_
      refine x_i2l i_95_278 rfl ?_
      refine x_lcmp i_95_279 rfl ?_
      refine x_if (C := (if M 34 0 < r then -1 else if M 34 0 = r then 0 else 1) = 0) i_95_280 rfl Iff.rfl rfl ⟨fun c4 => ?_, fun c4 => ?_⟩
      · replace h := h.1 c4
        refine x_goto i_95_285 rfl ?_
        obtain ⟨q5, h⟩ := h
        refine x_iinc i_95_786 rfl (by decide) rfl rfl q5 ?_
        refine x_goto i_95_789 rfl ?_
        exact h
      · replace h := h.2 c4
        refine x_iconst i_95_283 (by decide) rfl ?_
        exact x_iretz i_95_284 r_95 (by unfold pm_bit; decide) h
  · replace h := h.2 c1
    refine x_iconst i_95_266 (by decide) rfl ?_
    exact x_iretz i_95_267 r_95 (by unfold pm_bit; decide) h
/-! GateBenchLaw.law at 311 -/
theorem s_95_311 {L : Nat} {M : pm_M} {Q : pm_P} {a4 r : Int} {o5 o6 : Option pm_V}
    (h : (pm_R (a4 + 1)) ∧ (0 ≤ a4 + 1 ∧ a4 + 1 < L) ∧ (pm_R (a4 + 2)) ∧ (0 ≤ a4 + 2 ∧ a4 + 2 < L) ∧ (pm_R (a4 + 3)) ∧ (0 ≤ a4 + 3 ∧ a4 + 3 < L) ∧ pm_X L (70, 0, [some (.inr (.inl 24)), some (.inl (M 35 (a4 + 1))), some (.inl (M 35 (a4 + 2))), some (.inl (M 35 (a4 + 3)))], [], M) (pm_back (pm_X L) 95 332 [some (.inr (.inl 35)), some (.inr (.inl 0)), some (.inr (.inl 24)), some (.inr (.inl 34)), some (.inl a4), some (.inl r), o6] [] Q)) :
    pm_X L (95, 311, [some (.inr (.inl 35)), some (.inr (.inl 0)), some (.inr (.inl 24)), some (.inr (.inl 34)), some (.inl a4), o5, o6], [.inl r], M) Q := by
  refine x_istore i_95_311 (Nat.le_of_ble_eq_true rfl) rfl rfl ?_
  refine x_aload_n i_95_313 rfl rfl ?_
  refine x_aload_n i_95_314 rfl rfl ?_
  refine x_iload i_95_315 rfl rfl ?_
  refine x_iconst i_95_317 (by decide) rfl ?_
  obtain ⟨q1, h⟩ := h
  refine x_iadd i_95_318 rfl q1 ?_
  obtain ⟨q2, h⟩ := h
  refine x_iaload (v := M 35 (a4 + 1)) i_95_319 g_35 (rfl) rfl q2 ?_
  refine x_aload_n i_95_320 rfl rfl ?_
  refine x_iload i_95_321 rfl rfl ?_
  refine x_iconst i_95_323 (by decide) rfl ?_
  obtain ⟨q3, h⟩ := h
  refine x_iadd i_95_324 rfl q3 ?_
  obtain ⟨q4, h⟩ := h
  refine x_iaload (v := M 35 (a4 + 2)) i_95_325 g_35 (rfl) rfl q4 ?_
  refine x_aload_n i_95_326 rfl rfl ?_
  refine x_iload i_95_327 rfl rfl ?_
  refine x_iconst i_95_329 (by decide) rfl ?_
  obtain ⟨q5, h⟩ := h
  refine x_iadd i_95_330 rfl q5 ?_
  obtain ⟨q6, h⟩ := h
  refine x_iaload (v := M 35 (a4 + 3)) i_95_331 g_35 (rfl) rfl q6 ?_
  refine x_callv (as := [.inl (M 35 (a4 + 1)), .inl (M 35 (a4 + 2)), .inl (M 35 (a4 + 3))]) (rest := []) i_95_332 k_95_71 rfl rfl rfl g_24 (Nat.le_of_ble_eq_true rfl) m_70 rfl h
/-! GateBenchLaw.law at 335 -/
theorem s_95_335 {L : Nat} {M : pm_M} {Q : pm_P} {a4 a5 r : Int} {o6 : Option pm_V}
    (h : ((M 24 0 = a5 → ((¬ a5 = 0 → (pm_R (a4 + 4)) ∧ pm_X L (95, 23, [some (.inr (.inl 35)), some (.inr (.inl 0)), some (.inr (.inl 24)), some (.inr (.inl 34)), some (.inl (a4 + 4)), some (.inl a5), some (.inl r)], [], M) Q) ∧ (¬ (¬ a5 = 0) → (((if M 34 0 < r then -1 else if M 34 0 = r then 0 else 1) = 0 → (pm_R (a4 + 4)) ∧ pm_X L (95, 23, [some (.inr (.inl 35)), some (.inr (.inl 0)), some (.inr (.inl 24)), some (.inr (.inl 34)), some (.inl (a4 + 4)), some (.inl a5), some (.inl r)], [], M) Q) ∧ (¬ ((if M 34 0 < r then -1 else if M 34 0 = r then 0 else 1) = 0) → Q (.inl (some (.inl 0))) M))))) ∧ (¬ (M 24 0 = a5) → Q (.inl (some (.inl 0))) M))) :
    pm_X L (95, 335, [some (.inr (.inl 35)), some (.inr (.inl 0)), some (.inr (.inl 24)), some (.inr (.inl 34)), some (.inl a4), some (.inl a5), o6], [.inl r], M) Q := by
  refine x_istore i_95_335 (Nat.le_of_ble_eq_true rfl) rfl rfl ?_
  refine x_aload_n i_95_337 rfl rfl ?_
  refine x_callv (as := []) (rest := []) i_95_338 k_95_58 rfl rfl rfl g_24 (Nat.le_of_ble_eq_true rfl) m_63 rfl ?_
  refine x_aload_n i_63_0 rfl rfl ?_
  refine x_geti (v := M 24 0) i_63_1 f_63_7 g_24 rfl (rfl) rfl ?_
  refine x_ireti i_63_4 r_63 ?_
  refine x_bki rfl ?_
  refine x_iload i_95_341 rfl rfl ?_
  refine x_icmp (C := M 24 0 = a5) i_95_343 rfl Iff.rfl rfl ⟨fun c1 => ?_, fun c1 => ?_⟩
  · replace h := h.1 c1
    refine x_iload i_95_348 rfl rfl ?_
    refine x_if (C := ¬ a5 = 0) i_95_350 rfl Iff.rfl rfl ⟨fun c2 => ?_, fun c2 => ?_⟩
    · replace h := h.1 c2
      refine x_goto i_95_365 rfl ?_
      obtain ⟨q3, h⟩ := h
      refine x_iinc i_95_786 rfl (by decide) rfl rfl q3 ?_
      refine x_goto i_95_789 rfl ?_
      exact h
    · replace h := h.2 c2
      refine x_aload_n i_95_353 rfl rfl ?_
      refine x_iconst i_95_354 (by decide) rfl ?_
      refine x_laload (v := M 34 0) i_95_355 g_34 (rfl) rfl (by decide) ?_
      refine x_iload i_95_356 rfl rfl ?_
      refine x_i2l i_95_358 rfl ?_
      refine x_lcmp i_95_359 rfl ?_
      refine x_if (C := (if M 34 0 < r then -1 else if M 34 0 = r then 0 else 1) = 0) i_95_360 rfl Iff.rfl rfl ⟨fun c4 => ?_, fun c4 => ?_⟩
      · replace h := h.1 c4
        refine x_goto i_95_365 rfl ?_
        obtain ⟨q5, h⟩ := h
        refine x_iinc i_95_786 rfl (by decide) rfl rfl q5 ?_
        refine x_goto i_95_789 rfl ?_
        exact h
      · replace h := h.2 c4
        refine x_iconst i_95_363 (by decide) rfl ?_
        exact x_iretz i_95_364 r_95 (by unfold pm_bit; decide) h
  · replace h := h.2 c1
    refine x_iconst i_95_346 (by decide) rfl ?_
    exact x_iretz i_95_347 r_95 (by unfold pm_bit; decide) h
/-! GateBenchLaw.law at 379 -/
theorem s_95_379 {L : Nat} {M : pm_M} {Q : pm_P} {a4 r : Int} {o5 o6 : Option pm_V}
    (h : (pm_R (a4 + 1)) ∧ (0 ≤ a4 + 1 ∧ a4 + 1 < L) ∧ pm_X L (71, 0, [some (.inr (.inl 24)), some (.inl (M 35 (a4 + 1)))], [], M) (pm_back (pm_X L) 95 388 [some (.inr (.inl 35)), some (.inr (.inl 0)), some (.inr (.inl 24)), some (.inr (.inl 34)), some (.inl a4), some (.inl r), o6] [] Q)) :
    pm_X L (95, 379, [some (.inr (.inl 35)), some (.inr (.inl 0)), some (.inr (.inl 24)), some (.inr (.inl 34)), some (.inl a4), o5, o6], [.inl r], M) Q := by
  refine x_istore i_95_379 (Nat.le_of_ble_eq_true rfl) rfl rfl ?_
  refine x_aload_n i_95_381 rfl rfl ?_
  refine x_aload_n i_95_382 rfl rfl ?_
  refine x_iload i_95_383 rfl rfl ?_
  refine x_iconst i_95_385 (by decide) rfl ?_
  obtain ⟨q1, h⟩ := h
  refine x_iadd i_95_386 rfl q1 ?_
  obtain ⟨q2, h⟩ := h
  refine x_iaload (v := M 35 (a4 + 1)) i_95_387 g_35 (rfl) rfl q2 ?_
  refine x_callv (as := [.inl (M 35 (a4 + 1))]) (rest := []) i_95_388 k_95_74 rfl rfl rfl g_24 (Nat.le_of_ble_eq_true rfl) m_71 rfl h
/-! GateBenchLaw.law at 391 -/
theorem s_95_391 {L : Nat} {M : pm_M} {Q : pm_P} {a4 a5 r : Int} {o6 : Option pm_V}
    (h : ((M 24 0 = a5 → ((¬ a5 = 0 → (pm_R (a4 + 4)) ∧ pm_X L (95, 23, [some (.inr (.inl 35)), some (.inr (.inl 0)), some (.inr (.inl 24)), some (.inr (.inl 34)), some (.inl (a4 + 4)), some (.inl a5), some (.inl r)], [], M) Q) ∧ (¬ (¬ a5 = 0) → (((if M 34 0 < r then -1 else if M 34 0 = r then 0 else 1) = 0 → (pm_R (a4 + 4)) ∧ pm_X L (95, 23, [some (.inr (.inl 35)), some (.inr (.inl 0)), some (.inr (.inl 24)), some (.inr (.inl 34)), some (.inl (a4 + 4)), some (.inl a5), some (.inl r)], [], M) Q) ∧ (¬ ((if M 34 0 < r then -1 else if M 34 0 = r then 0 else 1) = 0) → Q (.inl (some (.inl 0))) M))))) ∧ (¬ (M 24 0 = a5) → Q (.inl (some (.inl 0))) M))) :
    pm_X L (95, 391, [some (.inr (.inl 35)), some (.inr (.inl 0)), some (.inr (.inl 24)), some (.inr (.inl 34)), some (.inl a4), some (.inl a5), o6], [.inl r], M) Q := by
  refine x_istore i_95_391 (Nat.le_of_ble_eq_true rfl) rfl rfl ?_
  refine x_aload_n i_95_393 rfl rfl ?_
  refine x_callv (as := []) (rest := []) i_95_394 k_95_58 rfl rfl rfl g_24 (Nat.le_of_ble_eq_true rfl) m_63 rfl ?_
  refine x_aload_n i_63_0 rfl rfl ?_
  refine x_geti (v := M 24 0) i_63_1 f_63_7 g_24 rfl (rfl) rfl ?_
  refine x_ireti i_63_4 r_63 ?_
  refine x_bki rfl ?_
  refine x_iload i_95_397 rfl rfl ?_
  refine x_icmp (C := M 24 0 = a5) i_95_399 rfl Iff.rfl rfl ⟨fun c1 => ?_, fun c1 => ?_⟩
  · replace h := h.1 c1
    refine x_iload i_95_404 rfl rfl ?_
    refine x_if (C := ¬ a5 = 0) i_95_406 rfl Iff.rfl rfl ⟨fun c2 => ?_, fun c2 => ?_⟩
    · replace h := h.1 c2
      refine x_goto i_95_421 rfl ?_
      obtain ⟨q3, h⟩ := h
      refine x_iinc i_95_786 rfl (by decide) rfl rfl q3 ?_
      refine x_goto i_95_789 rfl ?_
      exact h
    · replace h := h.2 c2
      refine x_aload_n i_95_409 rfl rfl ?_
      refine x_iconst i_95_410 (by decide) rfl ?_
      refine x_laload (v := M 34 0) i_95_411 g_34 (rfl) rfl (by decide) ?_
      refine x_iload i_95_412 rfl rfl ?_
      refine x_i2l i_95_414 rfl ?_
      refine x_lcmp i_95_415 rfl ?_
      refine x_if (C := (if M 34 0 < r then -1 else if M 34 0 = r then 0 else 1) = 0) i_95_416 rfl Iff.rfl rfl ⟨fun c4 => ?_, fun c4 => ?_⟩
      · replace h := h.1 c4
        refine x_goto i_95_421 rfl ?_
        obtain ⟨q5, h⟩ := h
        refine x_iinc i_95_786 rfl (by decide) rfl rfl q5 ?_
        refine x_goto i_95_789 rfl ?_
        exact h
      · replace h := h.2 c4
        refine x_iconst i_95_419 (by decide) rfl ?_
        exact x_iretz i_95_420 r_95 (by unfold pm_bit; decide) h
  · replace h := h.2 c1
    refine x_iconst i_95_402 (by decide) rfl ?_
    exact x_iretz i_95_403 r_95 (by unfold pm_bit; decide) h
/-! GateBenchLaw.law at 428 -/
theorem s_95_428 {L : Nat} {M : pm_M} {Q : pm_P} {a4 r : Int} {o5 o6 : Option pm_V}
    (h : pm_X L (72, 0, [some (.inr (.inl 24)), none], [], M) (pm_back (pm_X L) 95 429 [some (.inr (.inl 35)), some (.inr (.inl 0)), some (.inr (.inl 24)), some (.inr (.inl 34)), some (.inl a4), o5, o6] [.inl r] Q)) :
    pm_X L (95, 428, [some (.inr (.inl 35)), some (.inr (.inl 0)), some (.inr (.inl 24)), some (.inr (.inl 34)), some (.inl a4), o5, o6], [.inl r], M) Q := by
  refine x_aload_n i_95_428 rfl rfl ?_
  refine x_callv (as := []) (rest := [.inl r]) i_95_429 k_95_78 rfl rfl rfl g_24 (Nat.le_of_ble_eq_true rfl) m_72 rfl h
/-! GateBenchLaw.law at 432 -/
theorem s_95_432 {L : Nat} {M : pm_M} {Q : pm_P} {a4 r t0 : Int} {o5 o6 : Option pm_V}
    (h : ((t0 = r → (pm_R (a4 + 4)) ∧ pm_X L (95, 23, [some (.inr (.inl 35)), some (.inr (.inl 0)), some (.inr (.inl 24)), some (.inr (.inl 34)), some (.inl (a4 + 4)), o5, o6], [], M) Q) ∧ (¬ (t0 = r) → Q (.inl (some (.inl 0))) M))) :
    pm_X L (95, 432, [some (.inr (.inl 35)), some (.inr (.inl 0)), some (.inr (.inl 24)), some (.inr (.inl 34)), some (.inl a4), o5, o6], [.inl r, .inl t0], M) Q := by
  refine x_icmp (C := t0 = r) i_95_432 rfl Iff.rfl rfl ⟨fun c1 => ?_, fun c1 => ?_⟩
  · replace h := h.1 c1
    obtain ⟨q2, h⟩ := h
    refine x_iinc i_95_786 rfl (by decide) rfl rfl q2 ?_
    refine x_goto i_95_789 rfl ?_
    exact h
  · replace h := h.2 c1
    refine x_iconst i_95_435 (by decide) rfl ?_
    exact x_iretz i_95_436 r_95 (by unfold pm_bit; decide) h
/-! GateBenchLaw.law at 441 -/
theorem s_95_441 {L : Nat} {M : pm_M} {Q : pm_P} {a4 r : Int} {o5 o6 : Option pm_V}
    (h : pm_X L (78, 0, [some (.inr (.inl 24))], [], M) (pm_back (pm_X L) 95 442 [some (.inr (.inl 35)), some (.inr (.inl 0)), some (.inr (.inl 24)), some (.inr (.inl 34)), some (.inl a4), o5, o6] [.inl r] Q)) :
    pm_X L (95, 441, [some (.inr (.inl 35)), some (.inr (.inl 0)), some (.inr (.inl 24)), some (.inr (.inl 34)), some (.inl a4), o5, o6], [.inl r], M) Q := by
  refine x_aload_n i_95_441 rfl rfl ?_
  refine x_callv (as := []) (rest := [.inl r]) i_95_442 k_95_83 rfl rfl rfl g_24 (Nat.le_of_ble_eq_true rfl) m_78 rfl h
/-! GateBenchLaw.law at 445 -/
theorem s_95_445 {L : Nat} {M : pm_M} {Q : pm_P} {a4 r t0 : Int} {o5 o6 : Option pm_V}
    (h : ((t0 = r → (pm_R (a4 + 4)) ∧ pm_X L (95, 23, [some (.inr (.inl 35)), some (.inr (.inl 0)), some (.inr (.inl 24)), some (.inr (.inl 34)), some (.inl (a4 + 4)), o5, o6], [], M) Q) ∧ (¬ (t0 = r) → Q (.inl (some (.inl 0))) M))) :
    pm_X L (95, 445, [some (.inr (.inl 35)), some (.inr (.inl 0)), some (.inr (.inl 24)), some (.inr (.inl 34)), some (.inl a4), o5, o6], [.inl r, .inl t0], M) Q := by
  refine x_icmp (C := t0 = r) i_95_445 rfl Iff.rfl rfl ⟨fun c1 => ?_, fun c1 => ?_⟩
  · replace h := h.1 c1
    obtain ⟨q2, h⟩ := h
    refine x_iinc i_95_786 rfl (by decide) rfl rfl q2 ?_
    refine x_goto i_95_789 rfl ?_
    exact h
  · replace h := h.2 c1
    refine x_iconst i_95_448 (by decide) rfl ?_
    exact x_iretz i_95_449 r_95 (by unfold pm_bit; decide) h
/-! GateBenchLaw.law at 454 -/
theorem s_95_454 {L : Nat} {M : pm_M} {Q : pm_P} {a4 r : Int} {o5 o6 : Option pm_V}
    (h : pm_X L (79, 0, [some (.inr (.inl 24)), none, none, none], [], M) (pm_back (pm_X L) 95 455 [some (.inr (.inl 35)), some (.inr (.inl 0)), some (.inr (.inl 24)), some (.inr (.inl 34)), some (.inl a4), o5, o6] [.inl r] Q)) :
    pm_X L (95, 454, [some (.inr (.inl 35)), some (.inr (.inl 0)), some (.inr (.inl 24)), some (.inr (.inl 34)), some (.inl a4), o5, o6], [.inl r], M) Q := by
  refine x_aload_n i_95_454 rfl rfl ?_
  refine x_callv (as := []) (rest := [.inl r]) i_95_455 k_95_87 rfl rfl rfl g_24 (Nat.le_of_ble_eq_true rfl) m_79 rfl h
/-! GateBenchLaw.law at 458 -/
theorem s_95_458 {L : Nat} {M : pm_M} {Q : pm_P} {a4 r t0 : Int} {o5 o6 : Option pm_V}
    (h : ((t0 = r → (pm_R (a4 + 4)) ∧ pm_X L (95, 23, [some (.inr (.inl 35)), some (.inr (.inl 0)), some (.inr (.inl 24)), some (.inr (.inl 34)), some (.inl (a4 + 4)), o5, o6], [], M) Q) ∧ (¬ (t0 = r) → Q (.inl (some (.inl 0))) M))) :
    pm_X L (95, 458, [some (.inr (.inl 35)), some (.inr (.inl 0)), some (.inr (.inl 24)), some (.inr (.inl 34)), some (.inl a4), o5, o6], [.inl r, .inl t0], M) Q := by
  refine x_icmp (C := t0 = r) i_95_458 rfl Iff.rfl rfl ⟨fun c1 => ?_, fun c1 => ?_⟩
  · replace h := h.1 c1
    obtain ⟨q2, h⟩ := h
    refine x_iinc i_95_786 rfl (by decide) rfl rfl q2 ?_
    refine x_goto i_95_789 rfl ?_
    exact h
  · replace h := h.2 c1
    refine x_iconst i_95_461 (by decide) rfl ?_
    exact x_iretz i_95_462 r_95 (by unfold pm_bit; decide) h
/-! GateBenchLaw.law at 474 -/
theorem s_95_474 {L : Nat} {M : pm_M} {Q : pm_P} {a4 r : Int} {o5 o6 : Option pm_V}
    (h : (pm_R (a4 + 1)) ∧ (0 ≤ a4 + 1 ∧ a4 + 1 < L) ∧ pm_X L (80, 0, [some (.inr (.inl 24)), some (.inl (M 35 (a4 + 1)))], [], M) (pm_back (pm_X L) 95 483 [some (.inr (.inl 35)), some (.inr (.inl 0)), some (.inr (.inl 24)), some (.inr (.inl 34)), some (.inl a4), some (.inl r), o6] [] Q)) :
    pm_X L (95, 474, [some (.inr (.inl 35)), some (.inr (.inl 0)), some (.inr (.inl 24)), some (.inr (.inl 34)), some (.inl a4), o5, o6], [.inl r], M) Q := by
  refine x_istore i_95_474 (Nat.le_of_ble_eq_true rfl) rfl rfl ?_
  refine x_aload_n i_95_476 rfl rfl ?_
  refine x_aload_n i_95_477 rfl rfl ?_
  refine x_iload i_95_478 rfl rfl ?_
  refine x_iconst i_95_480 (by decide) rfl ?_
  obtain ⟨q1, h⟩ := h
  refine x_iadd i_95_481 rfl q1 ?_
  obtain ⟨q2, h⟩ := h
  refine x_iaload (v := M 35 (a4 + 1)) i_95_482 g_35 (rfl) rfl q2 ?_
  refine x_callv (as := [.inl (M 35 (a4 + 1))]) (rest := []) i_95_483 k_95_90 rfl rfl rfl g_24 (Nat.le_of_ble_eq_true rfl) m_80 rfl h
/-! GateBenchLaw.law at 486 -/
theorem s_95_486 {L : Nat} {M : pm_M} {Q : pm_P} {a4 a5 r : Int} {o6 : Option pm_V}
    (h : ((M 24 0 = a5 → ((¬ a5 = 0 → (pm_R (a4 + 4)) ∧ pm_X L (95, 23, [some (.inr (.inl 35)), some (.inr (.inl 0)), some (.inr (.inl 24)), some (.inr (.inl 34)), some (.inl (a4 + 4)), some (.inl a5), some (.inl r)], [], M) Q) ∧ (¬ (¬ a5 = 0) → (((if M 34 0 < r then -1 else if M 34 0 = r then 0 else 1) = 0 → (pm_R (a4 + 4)) ∧ pm_X L (95, 23, [some (.inr (.inl 35)), some (.inr (.inl 0)), some (.inr (.inl 24)), some (.inr (.inl 34)), some (.inl (a4 + 4)), some (.inl a5), some (.inl r)], [], M) Q) ∧ (¬ ((if M 34 0 < r then -1 else if M 34 0 = r then 0 else 1) = 0) → Q (.inl (some (.inl 0))) M))))) ∧ (¬ (M 24 0 = a5) → Q (.inl (some (.inl 0))) M))) :
    pm_X L (95, 486, [some (.inr (.inl 35)), some (.inr (.inl 0)), some (.inr (.inl 24)), some (.inr (.inl 34)), some (.inl a4), some (.inl a5), o6], [.inl r], M) Q := by
  refine x_istore i_95_486 (Nat.le_of_ble_eq_true rfl) rfl rfl ?_
  refine x_aload_n i_95_488 rfl rfl ?_
  refine x_callv (as := []) (rest := []) i_95_489 k_95_58 rfl rfl rfl g_24 (Nat.le_of_ble_eq_true rfl) m_63 rfl ?_
  refine x_aload_n i_63_0 rfl rfl ?_
  refine x_geti (v := M 24 0) i_63_1 f_63_7 g_24 rfl (rfl) rfl ?_
  refine x_ireti i_63_4 r_63 ?_
  refine x_bki rfl ?_
  refine x_iload i_95_492 rfl rfl ?_
  refine x_icmp (C := M 24 0 = a5) i_95_494 rfl Iff.rfl rfl ⟨fun c1 => ?_, fun c1 => ?_⟩
  · replace h := h.1 c1
    refine x_iload i_95_499 rfl rfl ?_
    refine x_if (C := ¬ a5 = 0) i_95_501 rfl Iff.rfl rfl ⟨fun c2 => ?_, fun c2 => ?_⟩
    · replace h := h.1 c2
      refine x_goto i_95_516 rfl ?_
      obtain ⟨q3, h⟩ := h
      refine x_iinc i_95_786 rfl (by decide) rfl rfl q3 ?_
      refine x_goto i_95_789 rfl ?_
      exact h
    · replace h := h.2 c2
      refine x_aload_n i_95_504 rfl rfl ?_
      refine x_iconst i_95_505 (by decide) rfl ?_
      refine x_laload (v := M 34 0) i_95_506 g_34 (rfl) rfl (by decide) ?_
      refine x_iload i_95_507 rfl rfl ?_
      refine x_i2l i_95_509 rfl ?_
      refine x_lcmp i_95_510 rfl ?_
      refine x_if (C := (if M 34 0 < r then -1 else if M 34 0 = r then 0 else 1) = 0) i_95_511 rfl Iff.rfl rfl ⟨fun c4 => ?_, fun c4 => ?_⟩
      · replace h := h.1 c4
        refine x_goto i_95_516 rfl ?_
        obtain ⟨q5, h⟩ := h
        refine x_iinc i_95_786 rfl (by decide) rfl rfl q5 ?_
        refine x_goto i_95_789 rfl ?_
        exact h
      · replace h := h.2 c4
        refine x_iconst i_95_514 (by decide) rfl ?_
        exact x_iretz i_95_515 r_95 (by unfold pm_bit; decide) h
  · replace h := h.2 c1
    refine x_iconst i_95_497 (by decide) rfl ?_
    exact x_iretz i_95_498 r_95 (by unfold pm_bit; decide) h
/-! GateBenchLaw.law at 536 -/
theorem s_95_536 {L : Nat} {M : pm_M} {Q : pm_P} {a4 r : Int} {o5 o6 : Option pm_V}
    (h : (pm_R (a4 + 1)) ∧ (0 ≤ a4 + 1 ∧ a4 + 1 < L) ∧ (pm_R (a4 + 2)) ∧ (0 ≤ a4 + 2 ∧ a4 + 2 < L) ∧ pm_X L (81, 0, [some (.inr (.inl 24)), some (.inl (M 35 (a4 + 1))), some (.inl (M 35 (a4 + 2))), none], [], M) (pm_back (pm_X L) 95 551 [some (.inr (.inl 35)), some (.inr (.inl 0)), some (.inr (.inl 24)), some (.inr (.inl 34)), some (.inl a4), some (.inl r), o6] [] Q)) :
    pm_X L (95, 536, [some (.inr (.inl 35)), some (.inr (.inl 0)), some (.inr (.inl 24)), some (.inr (.inl 34)), some (.inl a4), o5, o6], [.inl r], M) Q := by
  refine x_istore i_95_536 (Nat.le_of_ble_eq_true rfl) rfl rfl ?_
  refine x_aload_n i_95_538 rfl rfl ?_
  refine x_aload_n i_95_539 rfl rfl ?_
  refine x_iload i_95_540 rfl rfl ?_
  refine x_iconst i_95_542 (by decide) rfl ?_
  obtain ⟨q1, h⟩ := h
  refine x_iadd i_95_543 rfl q1 ?_
  obtain ⟨q2, h⟩ := h
  refine x_iaload (v := M 35 (a4 + 1)) i_95_544 g_35 (rfl) rfl q2 ?_
  refine x_aload_n i_95_545 rfl rfl ?_
  refine x_iload i_95_546 rfl rfl ?_
  refine x_iconst i_95_548 (by decide) rfl ?_
  obtain ⟨q3, h⟩ := h
  refine x_iadd i_95_549 rfl q3 ?_
  obtain ⟨q4, h⟩ := h
  refine x_iaload (v := M 35 (a4 + 2)) i_95_550 g_35 (rfl) rfl q4 ?_
  refine x_callv (as := [.inl (M 35 (a4 + 1)), .inl (M 35 (a4 + 2))]) (rest := []) i_95_551 k_95_94 rfl rfl rfl g_24 (Nat.le_of_ble_eq_true rfl) m_81 rfl h
/-! GateBenchLaw.law at 554 -/
theorem s_95_554 {L : Nat} {M : pm_M} {Q : pm_P} {a4 a5 r : Int} {o6 : Option pm_V}
    (h : ((M 24 0 = a5 → ((¬ a5 = 0 → (pm_R (a4 + 4)) ∧ pm_X L (95, 23, [some (.inr (.inl 35)), some (.inr (.inl 0)), some (.inr (.inl 24)), some (.inr (.inl 34)), some (.inl (a4 + 4)), some (.inl a5), some (.inl r)], [], M) Q) ∧ (¬ (¬ a5 = 0) → ((r = 0 → (((if M 34 0 < 0 then -1 else if M 34 0 = 0 then 0 else 1) = 0 → (pm_R (a4 + 4)) ∧ pm_X L (95, 23, [some (.inr (.inl 35)), some (.inr (.inl 0)), some (.inr (.inl 24)), some (.inr (.inl 34)), some (.inl (a4 + 4)), some (.inl a5), some (.inl r)], [], M) Q) ∧ (¬ ((if M 34 0 < 0 then -1 else if M 34 0 = 0 then 0 else 1) = 0) → Q (.inl (some (.inl 0))) M))) ∧ (¬ (r = 0) → (((if M 34 0 < 1 then -1 else if M 34 0 = 1 then 0 else 1) = 0 → (pm_R (a4 + 4)) ∧ pm_X L (95, 23, [some (.inr (.inl 35)), some (.inr (.inl 0)), some (.inr (.inl 24)), some (.inr (.inl 34)), some (.inl (a4 + 4)), some (.inl a5), some (.inl r)], [], M) Q) ∧ (¬ ((if M 34 0 < 1 then -1 else if M 34 0 = 1 then 0 else 1) = 0) → Q (.inl (some (.inl 0))) M))))))) ∧ (¬ (M 24 0 = a5) → Q (.inl (some (.inl 0))) M))) :
    pm_X L (95, 554, [some (.inr (.inl 35)), some (.inr (.inl 0)), some (.inr (.inl 24)), some (.inr (.inl 34)), some (.inl a4), some (.inl a5), o6], [.inl r], M) Q := by
  refine x_istore i_95_554 (Nat.le_of_ble_eq_true rfl) rfl rfl ?_
  refine x_aload_n i_95_556 rfl rfl ?_
  refine x_callv (as := []) (rest := []) i_95_557 k_95_58 rfl rfl rfl g_24 (Nat.le_of_ble_eq_true rfl) m_63 rfl ?_
  refine x_aload_n i_63_0 rfl rfl ?_
  refine x_geti (v := M 24 0) i_63_1 f_63_7 g_24 rfl (rfl) rfl ?_
  refine x_ireti i_63_4 r_63 ?_
  refine x_bki rfl ?_
  refine x_iload i_95_560 rfl rfl ?_
  refine x_icmp (C := M 24 0 = a5) i_95_562 rfl Iff.rfl rfl ⟨fun c1 => ?_, fun c1 => ?_⟩
  · replace h := h.1 c1
    refine x_iload i_95_567 rfl rfl ?_
    refine x_if (C := ¬ a5 = 0) i_95_569 rfl Iff.rfl rfl ⟨fun c2 => ?_, fun c2 => ?_⟩
    · replace h := h.1 c2
      refine x_goto i_95_591 rfl ?_
      obtain ⟨q3, h⟩ := h
      refine x_iinc i_95_786 rfl (by decide) rfl rfl q3 ?_
      refine x_goto i_95_789 rfl ?_
      exact h
    · replace h := h.2 c2
      refine x_aload_n i_95_572 rfl rfl ?_
      refine x_iconst i_95_573 (by decide) rfl ?_
      refine x_laload (v := M 34 0) i_95_574 g_34 (rfl) rfl (by decide) ?_
      refine x_iload i_95_575 rfl rfl ?_
      refine x_if (C := r = 0) i_95_577 rfl Iff.rfl rfl ⟨fun c4 => ?_, fun c4 => ?_⟩
      · replace h := h.1 c4
        refine x_lconst (y := 0) i_95_584 rfl rfl ?_
        refine x_lcmp i_95_585 rfl ?_
        refine x_if (C := (if M 34 0 < 0 then -1 else if M 34 0 = 0 then 0 else 1) = 0) i_95_586 rfl Iff.rfl rfl ⟨fun c5 => ?_, fun c5 => ?_⟩
        · replace h := h.1 c5
          refine x_goto i_95_591 rfl ?_
          obtain ⟨q6, h⟩ := h
          refine x_iinc i_95_786 rfl (by decide) rfl rfl q6 ?_
          refine x_goto i_95_789 rfl ?_
          exact h
        · replace h := h.2 c5
          refine x_iconst i_95_589 (by decide) rfl ?_
          exact x_iretz i_95_590 r_95 (by unfold pm_bit; decide) h
      · replace h := h.2 c4
        refine x_lconst (y := 1) i_95_580 rfl rfl ?_
        refine x_goto i_95_581 rfl ?_
        refine x_lcmp i_95_585 rfl ?_
        refine x_if (C := (if M 34 0 < 1 then -1 else if M 34 0 = 1 then 0 else 1) = 0) i_95_586 rfl Iff.rfl rfl ⟨fun c7 => ?_, fun c7 => ?_⟩
        · replace h := h.1 c7
          refine x_goto i_95_591 rfl ?_
          obtain ⟨q8, h⟩ := h
          refine x_iinc i_95_786 rfl (by decide) rfl rfl q8 ?_
          refine x_goto i_95_789 rfl ?_
          exact h
        · replace h := h.2 c7
          refine x_iconst i_95_589 (by decide) rfl ?_
          exact x_iretz i_95_590 r_95 (by unfold pm_bit; decide) h
  · replace h := h.2 c1
    refine x_iconst i_95_565 (by decide) rfl ?_
    exact x_iretz i_95_566 r_95 (by unfold pm_bit; decide) h
/-! GateBenchLaw.law at 619 -/
theorem s_95_619 {L : Nat} {M : pm_M} {Q : pm_P} {a4 r : Int} {o5 o6 : Option pm_V}
    (h : (pm_R (a4 + 1)) ∧ (0 ≤ a4 + 1 ∧ a4 + 1 < L) ∧ (pm_R (a4 + 2)) ∧ (0 ≤ a4 + 2 ∧ a4 + 2 < L) ∧ ((M 35 (a4 + 2) = 0 → pm_X L (82, 0, [some (.inr (.inl 24)), some (.inl (M 35 (a4 + 1))), some (.inl 0), none], [], M) (pm_back (pm_X L) 95 642 [some (.inr (.inl 35)), some (.inr (.inl 0)), some (.inr (.inl 24)), some (.inr (.inl 34)), some (.inl a4), some (.inl r), o6] [] Q)) ∧ (¬ (M 35 (a4 + 2) = 0) → pm_X L (82, 0, [some (.inr (.inl 24)), some (.inl (M 35 (a4 + 1))), some (.inl 1), none], [], M) (pm_back (pm_X L) 95 642 [some (.inr (.inl 35)), some (.inr (.inl 0)), some (.inr (.inl 24)), some (.inr (.inl 34)), some (.inl a4), some (.inl r), o6] [] Q)))) :
    pm_X L (95, 619, [some (.inr (.inl 35)), some (.inr (.inl 0)), some (.inr (.inl 24)), some (.inr (.inl 34)), some (.inl a4), o5, o6], [.inl r], M) Q := by
  refine x_istore i_95_619 (Nat.le_of_ble_eq_true rfl) rfl rfl ?_
  refine x_aload_n i_95_621 rfl rfl ?_
  refine x_aload_n i_95_622 rfl rfl ?_
  refine x_iload i_95_623 rfl rfl ?_
  refine x_iconst i_95_625 (by decide) rfl ?_
  obtain ⟨q1, h⟩ := h
  refine x_iadd i_95_626 rfl q1 ?_
  obtain ⟨q2, h⟩ := h
  refine x_iaload (v := M 35 (a4 + 1)) i_95_627 g_35 (rfl) rfl q2 ?_
  refine x_aload_n i_95_628 rfl rfl ?_
  refine x_iload i_95_629 rfl rfl ?_
  refine x_iconst i_95_631 (by decide) rfl ?_
  obtain ⟨q3, h⟩ := h
  refine x_iadd i_95_632 rfl q3 ?_
  obtain ⟨q4, h⟩ := h
  refine x_iaload (v := M 35 (a4 + 2)) i_95_633 g_35 (rfl) rfl q4 ?_
  refine x_if (C := M 35 (a4 + 2) = 0) i_95_634 rfl Iff.rfl rfl ⟨fun c5 => ?_, fun c5 => ?_⟩
  · replace h := h.1 c5
    refine x_iconst i_95_641 (by decide) rfl ?_
    refine x_callv (as := [.inl (M 35 (a4 + 1)), .inl 0]) (rest := []) i_95_642 k_95_98 rfl rfl rfl g_24 (Nat.le_of_ble_eq_true rfl) m_82 rfl h
  · replace h := h.2 c5
    refine x_iconst i_95_637 (by decide) rfl ?_
    refine x_goto i_95_638 rfl ?_
    refine x_callv (as := [.inl (M 35 (a4 + 1)), .inl 1]) (rest := []) i_95_642 k_95_98 rfl rfl rfl g_24 (Nat.le_of_ble_eq_true rfl) m_82 rfl h
/-! GateBenchLaw.law at 645 -/
theorem s_95_645 {L : Nat} {M : pm_M} {Q : pm_P} {a4 a5 r : Int} {o6 : Option pm_V}
    (h : ((M 24 0 = a5 → ((¬ a5 = 0 → (pm_R (a4 + 4)) ∧ pm_X L (95, 23, [some (.inr (.inl 35)), some (.inr (.inl 0)), some (.inr (.inl 24)), some (.inr (.inl 34)), some (.inl (a4 + 4)), some (.inl a5), some (.inl r)], [], M) Q) ∧ (¬ (¬ a5 = 0) → ((r = 0 → (((if M 34 0 < 0 then -1 else if M 34 0 = 0 then 0 else 1) = 0 → (pm_R (a4 + 4)) ∧ pm_X L (95, 23, [some (.inr (.inl 35)), some (.inr (.inl 0)), some (.inr (.inl 24)), some (.inr (.inl 34)), some (.inl (a4 + 4)), some (.inl a5), some (.inl r)], [], M) Q) ∧ (¬ ((if M 34 0 < 0 then -1 else if M 34 0 = 0 then 0 else 1) = 0) → Q (.inl (some (.inl 0))) M))) ∧ (¬ (r = 0) → (((if M 34 0 < 1 then -1 else if M 34 0 = 1 then 0 else 1) = 0 → (pm_R (a4 + 4)) ∧ pm_X L (95, 23, [some (.inr (.inl 35)), some (.inr (.inl 0)), some (.inr (.inl 24)), some (.inr (.inl 34)), some (.inl (a4 + 4)), some (.inl a5), some (.inl r)], [], M) Q) ∧ (¬ ((if M 34 0 < 1 then -1 else if M 34 0 = 1 then 0 else 1) = 0) → Q (.inl (some (.inl 0))) M))))))) ∧ (¬ (M 24 0 = a5) → Q (.inl (some (.inl 0))) M))) :
    pm_X L (95, 645, [some (.inr (.inl 35)), some (.inr (.inl 0)), some (.inr (.inl 24)), some (.inr (.inl 34)), some (.inl a4), some (.inl a5), o6], [.inl r], M) Q := by
  refine x_istore i_95_645 (Nat.le_of_ble_eq_true rfl) rfl rfl ?_
  refine x_aload_n i_95_647 rfl rfl ?_
  refine x_callv (as := []) (rest := []) i_95_648 k_95_58 rfl rfl rfl g_24 (Nat.le_of_ble_eq_true rfl) m_63 rfl ?_
  refine x_aload_n i_63_0 rfl rfl ?_
  refine x_geti (v := M 24 0) i_63_1 f_63_7 g_24 rfl (rfl) rfl ?_
  refine x_ireti i_63_4 r_63 ?_
  refine x_bki rfl ?_
  refine x_iload i_95_651 rfl rfl ?_
  refine x_icmp (C := M 24 0 = a5) i_95_653 rfl Iff.rfl rfl ⟨fun c1 => ?_, fun c1 => ?_⟩
  · replace h := h.1 c1
    refine x_iload i_95_658 rfl rfl ?_
    refine x_if (C := ¬ a5 = 0) i_95_660 rfl Iff.rfl rfl ⟨fun c2 => ?_, fun c2 => ?_⟩
    · replace h := h.1 c2
      refine x_goto i_95_682 rfl ?_
      obtain ⟨q3, h⟩ := h
      refine x_iinc i_95_786 rfl (by decide) rfl rfl q3 ?_
      refine x_goto i_95_789 rfl ?_
      exact h
    · replace h := h.2 c2
      refine x_aload_n i_95_663 rfl rfl ?_
      refine x_iconst i_95_664 (by decide) rfl ?_
      refine x_laload (v := M 34 0) i_95_665 g_34 (rfl) rfl (by decide) ?_
      refine x_iload i_95_666 rfl rfl ?_
      refine x_if (C := r = 0) i_95_668 rfl Iff.rfl rfl ⟨fun c4 => ?_, fun c4 => ?_⟩
      · replace h := h.1 c4
        refine x_lconst (y := 0) i_95_675 rfl rfl ?_
        refine x_lcmp i_95_676 rfl ?_
        refine x_if (C := (if M 34 0 < 0 then -1 else if M 34 0 = 0 then 0 else 1) = 0) i_95_677 rfl Iff.rfl rfl ⟨fun c5 => ?_, fun c5 => ?_⟩
        · replace h := h.1 c5
          refine x_goto i_95_682 rfl ?_
          obtain ⟨q6, h⟩ := h
          refine x_iinc i_95_786 rfl (by decide) rfl rfl q6 ?_
          refine x_goto i_95_789 rfl ?_
          exact h
        · replace h := h.2 c5
          refine x_iconst i_95_680 (by decide) rfl ?_
          exact x_iretz i_95_681 r_95 (by unfold pm_bit; decide) h
      · replace h := h.2 c4
        refine x_lconst (y := 1) i_95_671 rfl rfl ?_
        refine x_goto i_95_672 rfl ?_
        refine x_lcmp i_95_676 rfl ?_
        refine x_if (C := (if M 34 0 < 1 then -1 else if M 34 0 = 1 then 0 else 1) = 0) i_95_677 rfl Iff.rfl rfl ⟨fun c7 => ?_, fun c7 => ?_⟩
        · replace h := h.1 c7
          refine x_goto i_95_682 rfl ?_
          obtain ⟨q8, h⟩ := h
          refine x_iinc i_95_786 rfl (by decide) rfl rfl q8 ?_
          refine x_goto i_95_789 rfl ?_
          exact h
        · replace h := h.2 c7
          refine x_iconst i_95_680 (by decide) rfl ?_
          exact x_iretz i_95_681 r_95 (by unfold pm_bit; decide) h
  · replace h := h.2 c1
    refine x_iconst i_95_656 (by decide) rfl ?_
    exact x_iretz i_95_657 r_95 (by unfold pm_bit; decide) h
/-! GateBenchLaw.law at 696 -/
theorem s_95_696 {L : Nat} {M : pm_M} {Q : pm_P} {a4 r : Int} {o5 o6 : Option pm_V}
    (h : (pm_R (a4 + 1)) ∧ (0 ≤ a4 + 1 ∧ a4 + 1 < L) ∧ pm_X L (83, 0, [some (.inr (.inl 24)), some (.inl (M 35 (a4 + 1)))], [], M) (pm_back (pm_X L) 95 705 [some (.inr (.inl 35)), some (.inr (.inl 0)), some (.inr (.inl 24)), some (.inr (.inl 34)), some (.inl a4), some (.inl r), o6] [] Q)) :
    pm_X L (95, 696, [some (.inr (.inl 35)), some (.inr (.inl 0)), some (.inr (.inl 24)), some (.inr (.inl 34)), some (.inl a4), o5, o6], [.inl r], M) Q := by
  refine x_istore i_95_696 (Nat.le_of_ble_eq_true rfl) rfl rfl ?_
  refine x_aload_n i_95_698 rfl rfl ?_
  refine x_aload_n i_95_699 rfl rfl ?_
  refine x_iload i_95_700 rfl rfl ?_
  refine x_iconst i_95_702 (by decide) rfl ?_
  obtain ⟨q1, h⟩ := h
  refine x_iadd i_95_703 rfl q1 ?_
  obtain ⟨q2, h⟩ := h
  refine x_iaload (v := M 35 (a4 + 1)) i_95_704 g_35 (rfl) rfl q2 ?_
  refine x_callv (as := [.inl (M 35 (a4 + 1))]) (rest := []) i_95_705 k_95_101 rfl rfl rfl g_24 (Nat.le_of_ble_eq_true rfl) m_83 rfl h
/-! GateBenchLaw.law at 708 -/
theorem s_95_708 {L : Nat} {M : pm_M} {Q : pm_P} {a4 a5 r : Int} {o6 : Option pm_V}
    (h : ((M 24 0 = a5 → ((¬ a5 = 0 → (pm_R (a4 + 4)) ∧ pm_X L (95, 23, [some (.inr (.inl 35)), some (.inr (.inl 0)), some (.inr (.inl 24)), some (.inr (.inl 34)), some (.inl (a4 + 4)), some (.inl a5), some (.inl r)], [], M) Q) ∧ (¬ (¬ a5 = 0) → ((r = 0 → (((if M 34 0 < 0 then -1 else if M 34 0 = 0 then 0 else 1) = 0 → (pm_R (a4 + 4)) ∧ pm_X L (95, 23, [some (.inr (.inl 35)), some (.inr (.inl 0)), some (.inr (.inl 24)), some (.inr (.inl 34)), some (.inl (a4 + 4)), some (.inl a5), some (.inl r)], [], M) Q) ∧ (¬ ((if M 34 0 < 0 then -1 else if M 34 0 = 0 then 0 else 1) = 0) → Q (.inl (some (.inl 0))) M))) ∧ (¬ (r = 0) → (((if M 34 0 < 1 then -1 else if M 34 0 = 1 then 0 else 1) = 0 → (pm_R (a4 + 4)) ∧ pm_X L (95, 23, [some (.inr (.inl 35)), some (.inr (.inl 0)), some (.inr (.inl 24)), some (.inr (.inl 34)), some (.inl (a4 + 4)), some (.inl a5), some (.inl r)], [], M) Q) ∧ (¬ ((if M 34 0 < 1 then -1 else if M 34 0 = 1 then 0 else 1) = 0) → Q (.inl (some (.inl 0))) M))))))) ∧ (¬ (M 24 0 = a5) → Q (.inl (some (.inl 0))) M))) :
    pm_X L (95, 708, [some (.inr (.inl 35)), some (.inr (.inl 0)), some (.inr (.inl 24)), some (.inr (.inl 34)), some (.inl a4), some (.inl a5), o6], [.inl r], M) Q := by
  refine x_istore i_95_708 (Nat.le_of_ble_eq_true rfl) rfl rfl ?_
  refine x_aload_n i_95_710 rfl rfl ?_
  refine x_callv (as := []) (rest := []) i_95_711 k_95_58 rfl rfl rfl g_24 (Nat.le_of_ble_eq_true rfl) m_63 rfl ?_
  refine x_aload_n i_63_0 rfl rfl ?_
  refine x_geti (v := M 24 0) i_63_1 f_63_7 g_24 rfl (rfl) rfl ?_
  refine x_ireti i_63_4 r_63 ?_
  refine x_bki rfl ?_
  refine x_iload i_95_714 rfl rfl ?_
  refine x_icmp (C := M 24 0 = a5) i_95_716 rfl Iff.rfl rfl ⟨fun c1 => ?_, fun c1 => ?_⟩
  · replace h := h.1 c1
    refine x_iload i_95_721 rfl rfl ?_
    refine x_if (C := ¬ a5 = 0) i_95_723 rfl Iff.rfl rfl ⟨fun c2 => ?_, fun c2 => ?_⟩
    · replace h := h.1 c2
      refine x_goto i_95_745 rfl ?_
      obtain ⟨q3, h⟩ := h
      refine x_iinc i_95_786 rfl (by decide) rfl rfl q3 ?_
      refine x_goto i_95_789 rfl ?_
      exact h
    · replace h := h.2 c2
      refine x_aload_n i_95_726 rfl rfl ?_
      refine x_iconst i_95_727 (by decide) rfl ?_
      refine x_laload (v := M 34 0) i_95_728 g_34 (rfl) rfl (by decide) ?_
      refine x_iload i_95_729 rfl rfl ?_
      refine x_if (C := r = 0) i_95_731 rfl Iff.rfl rfl ⟨fun c4 => ?_, fun c4 => ?_⟩
      · replace h := h.1 c4
        refine x_lconst (y := 0) i_95_738 rfl rfl ?_
        refine x_lcmp i_95_739 rfl ?_
        refine x_if (C := (if M 34 0 < 0 then -1 else if M 34 0 = 0 then 0 else 1) = 0) i_95_740 rfl Iff.rfl rfl ⟨fun c5 => ?_, fun c5 => ?_⟩
        · replace h := h.1 c5
          refine x_goto i_95_745 rfl ?_
          obtain ⟨q6, h⟩ := h
          refine x_iinc i_95_786 rfl (by decide) rfl rfl q6 ?_
          refine x_goto i_95_789 rfl ?_
          exact h
        · replace h := h.2 c5
          refine x_iconst i_95_743 (by decide) rfl ?_
          exact x_iretz i_95_744 r_95 (by unfold pm_bit; decide) h
      · replace h := h.2 c4
        refine x_lconst (y := 1) i_95_734 rfl rfl ?_
        refine x_goto i_95_735 rfl ?_
        refine x_lcmp i_95_739 rfl ?_
        refine x_if (C := (if M 34 0 < 1 then -1 else if M 34 0 = 1 then 0 else 1) = 0) i_95_740 rfl Iff.rfl rfl ⟨fun c7 => ?_, fun c7 => ?_⟩
        · replace h := h.1 c7
          refine x_goto i_95_745 rfl ?_
          obtain ⟨q8, h⟩ := h
          refine x_iinc i_95_786 rfl (by decide) rfl rfl q8 ?_
          refine x_goto i_95_789 rfl ?_
          exact h
        · replace h := h.2 c7
          refine x_iconst i_95_743 (by decide) rfl ?_
          exact x_iretz i_95_744 r_95 (by unfold pm_bit; decide) h
  · replace h := h.2 c1
    refine x_iconst i_95_719 (by decide) rfl ?_
    exact x_iretz i_95_720 r_95 (by unfold pm_bit; decide) h
/-! GateBenchLaw.law at 752 -/
theorem s_95_752 {L : Nat} {M : pm_M} {Q : pm_P} {a4 r : Int} {o5 o6 : Option pm_V}
    (h : pm_X L (84, 0, [some (.inr (.inl 24))], [], M) (pm_back (pm_X L) 95 753 [some (.inr (.inl 35)), some (.inr (.inl 0)), some (.inr (.inl 24)), some (.inr (.inl 34)), some (.inl a4), o5, o6] [.inl r] Q)) :
    pm_X L (95, 752, [some (.inr (.inl 35)), some (.inr (.inl 0)), some (.inr (.inl 24)), some (.inr (.inl 34)), some (.inl a4), o5, o6], [.inl r], M) Q := by
  refine x_aload_n i_95_752 rfl rfl ?_
  refine x_callv (as := []) (rest := [.inl r]) i_95_753 k_95_105 rfl rfl rfl g_24 (Nat.le_of_ble_eq_true rfl) m_84 rfl h
/-! GateBenchLaw.law at 756 -/
theorem s_95_756 {L : Nat} {M : pm_M} {Q : pm_P} {a4 r t0 : Int} {o5 o6 : Option pm_V}
    (h : ((t0 = r → (pm_R (a4 + 4)) ∧ pm_X L (95, 23, [some (.inr (.inl 35)), some (.inr (.inl 0)), some (.inr (.inl 24)), some (.inr (.inl 34)), some (.inl (a4 + 4)), o5, o6], [], M) Q) ∧ (¬ (t0 = r) → Q (.inl (some (.inl 0))) M))) :
    pm_X L (95, 756, [some (.inr (.inl 35)), some (.inr (.inl 0)), some (.inr (.inl 24)), some (.inr (.inl 34)), some (.inl a4), o5, o6], [.inl r, .inl t0], M) Q := by
  refine x_icmp (C := t0 = r) i_95_756 rfl Iff.rfl rfl ⟨fun c1 => ?_, fun c1 => ?_⟩
  · replace h := h.1 c1
    obtain ⟨q2, h⟩ := h
    refine x_iinc i_95_786 rfl (by decide) rfl rfl q2 ?_
    refine x_goto i_95_789 rfl ?_
    exact h
  · replace h := h.2 c1
    refine x_iconst i_95_759 (by decide) rfl ?_
    exact x_iretz i_95_760 r_95 (by unfold pm_bit; decide) h
/-! GateBenchLaw.law at 771 -/
theorem s_95_771 {L : Nat} {M : pm_M} {Q : pm_P} {a4 r : Int} {o5 o6 : Option pm_V}
    (h : (pm_R (a4 + 1)) ∧ (0 ≤ a4 + 1 ∧ a4 + 1 < L) ∧ pm_X L (85, 0, [some (.inr (.inl 24)), some (.inl (M 35 (a4 + 1)))], [], M) (pm_back (pm_X L) 95 778 [some (.inr (.inl 35)), some (.inr (.inl 0)), some (.inr (.inl 24)), some (.inr (.inl 34)), some (.inl a4), o5, o6] [.inl r] Q)) :
    pm_X L (95, 771, [some (.inr (.inl 35)), some (.inr (.inl 0)), some (.inr (.inl 24)), some (.inr (.inl 34)), some (.inl a4), o5, o6], [.inl r], M) Q := by
  refine x_aload_n i_95_771 rfl rfl ?_
  refine x_aload_n i_95_772 rfl rfl ?_
  refine x_iload i_95_773 rfl rfl ?_
  refine x_iconst i_95_775 (by decide) rfl ?_
  obtain ⟨q1, h⟩ := h
  refine x_iadd i_95_776 rfl q1 ?_
  obtain ⟨q2, h⟩ := h
  refine x_iaload (v := M 35 (a4 + 1)) i_95_777 g_35 (rfl) rfl q2 ?_
  refine x_callv (as := [.inl (M 35 (a4 + 1))]) (rest := [.inl r]) i_95_778 k_95_109 rfl rfl rfl g_24 (Nat.le_of_ble_eq_true rfl) m_85 rfl h
/-! GateBenchLaw.law at 781 -/
theorem s_95_781 {L : Nat} {M : pm_M} {Q : pm_P} {a4 r t0 : Int} {o5 o6 : Option pm_V}
    (h : ((t0 = r → (pm_R (a4 + 4)) ∧ pm_X L (95, 23, [some (.inr (.inl 35)), some (.inr (.inl 0)), some (.inr (.inl 24)), some (.inr (.inl 34)), some (.inl (a4 + 4)), o5, o6], [], M) Q) ∧ (¬ (t0 = r) → Q (.inl (some (.inl 0))) M))) :
    pm_X L (95, 781, [some (.inr (.inl 35)), some (.inr (.inl 0)), some (.inr (.inl 24)), some (.inr (.inl 34)), some (.inl a4), o5, o6], [.inl r, .inl t0], M) Q := by
  refine x_icmp (C := t0 = r) i_95_781 rfl Iff.rfl rfl ⟨fun c1 => ?_, fun c1 => ?_⟩
  · replace h := h.1 c1
    obtain ⟨q2, h⟩ := h
    refine x_iinc i_95_786 rfl (by decide) rfl rfl q2 ?_
    refine x_goto i_95_789 rfl ?_
    exact h
  · replace h := h.2 c1
    refine x_iconst i_95_784 (by decide) rfl ?_
    exact x_iretz i_95_785 r_95 (by unfold pm_bit; decide) h
end
section
/-! FROM THE PURE MACHINE TO THE MACHINE: values, worlds, locals -/
def pz_v (ad : Nat → Nat) (v : pm_V) : Value := match v with
  | .inl x => .int (Int32.ofInt x)
  | .inr (.inl c) => .ref (ad c)
  | .inr (.inr x) => .long (Int64.ofInt x)
def pz_f (ad : Nat → Nat) (M : pm_M) (c : Nat) (j : Nat) (f : Nat ⊕ Bool) : Value := match f with
  | .inl q => .ref (ad q)
  | .inr _ => .int (Int32.ofInt (M c j))
def pz_a (kd : Nat) (M : pm_M) (c : Nat) : (Nat → Int32) ⊕ (Nat → Int64) ⊕ (Nat → UInt32) ⊕ (Nat → UInt64) ⊕ (Nat → Option Nat) :=
  if kd = 2 then .inr (.inl (fun j => Int64.ofInt (M c j))) else .inl (fun j => Int32.ofInt (M c j))
def pz_e (ad : Nat → Nat) (cA : Nat → ClassId) (M : pm_M) (c : Nat) (d : pm_D) : va_E := match d with
  | .inl a => .inl (cA a.1, a.2, pz_a a.1 M c)
  | .inr o => .inr (o.1, o.2.mapIdx (pz_f ad M c))
def pz_ws (L : Nat) (ad : Nat → Nat) (cA : Nat → ClassId) (M : pm_M) : va_W := (pm_cells L).mapIdx (fun c d => (ad c, pz_e ad cA M c d))
def pz_tys (cA : Nat → ClassId) : List (ClassId × FieldType) := [(cA 0, .int), (cA 1, .boolean), (cA 2, .long)]
theorem pz_at {L : Nat} {ad : Nat → Nat} {cA : Nat → ClassId} {M : pm_M} {c : Nat} {d : pm_D} (h : (pm_cells L)[c]? = some d) : (pz_ws L ad cA M)[c]? = some (ad c, pz_e ad cA M c d) := by
  unfold pz_ws
  rw [List.getElem?_mapIdx, h]
  rfl
theorem pz_to {L : Nat} {ad : Nat → Nat} {cA : Nat → ClassId} {M : pm_M} {c : Nat} {q : Nat × va_E} (h : (pz_ws L ad cA M)[c]? = some q) : ∃ d, (pm_cells L)[c]? = some d ∧ q = (ad c, pz_e ad cA M c d) := by
  unfold pz_ws at h
  rw [List.getElem?_mapIdx] at h
  cases hd : (pm_cells L)[c]? with
  | none => rw [hd] at h; cases h
  | some d => rw [hd] at h; exact ⟨d, rfl, (Option.some.inj h).symm⟩
theorem pz_lt {L c : Nat} {d : pm_D} (h : (pm_cells L)[c]? = some d) : c < 36 := (List.getElem?_eq_some_iff.mp h).1
theorem pz_f_eq {ad : Nat → Nat} {M M' : pm_M} {c : Nat} (h : M' c = M c) : pz_f ad M' c = pz_f ad M c := by
  funext j f
  cases f with
  | inl q => rfl
  | inr b => show Value.int _ = Value.int _; rw [h]
theorem pz_e_eq {ad : Nat → Nat} {cA : Nat → ClassId} {M M' : pm_M} {c : Nat} {d : pm_D} (h : M' c = M c) : pz_e ad cA M' c d = pz_e ad cA M c d := by
  cases d with
  | inl a => unfold pz_e pz_a; rw [h]
  | inr o => unfold pz_e; rw [pz_f_eq h]
theorem pz_set {L : Nat} {ad : Nat → Nat} {cA : Nat → ClassId} {M M' : pm_M} {c : Nat} {d : pm_D} (h : ∀ a, a ≠ c → M' a = M a) (hd : (pm_cells L)[c]? = some d) : (pz_ws L ad cA M).set c (ad c, pz_e ad cA M' c d) = pz_ws L ad cA M' := by
  apply List.ext_getElem?
  intro i
  rw [List.getElem?_set]
  by_cases hi : c = i
  · subst hi
    have h1 : c < (pz_ws L ad cA M).length := (List.getElem?_eq_some_iff.mp (pz_at (ad := ad) (cA := cA) (M := M) hd)).1
    rw [if_pos rfl, if_pos h1, pz_at hd]
  · rw [if_neg hi]
    unfold pz_ws
    rw [List.getElem?_mapIdx, List.getElem?_mapIdx]
    cases (pm_cells L)[i]? with
    | none => rfl
    | some d' =>
      show some (ad i, pz_e ad cA M i d') = some (ad i, pz_e ad cA M' i d')
      rw [pz_e_eq (h i (fun z => hi z.symm))]
theorem pm_set_off {M : pm_M} {c : Nat} {j x : Int} (a : Nat) (h : a ≠ c) : pm_set M c j x a = M a := by
  funext b
  unfold pm_set
  rw [if_neg (fun z => h z.1)]
/-- the cells that a method may change: the world's, and those that come from sz on -/
def pz_A (ad : Nat → Nat) (sz : Nat) : Nat → Prop := fun q => (∃ c, c < 36 ∧ q = ad c) ∨ sz ≤ q
def pz_W (ad : Nat → Nat) : Nat → Prop := fun q => ∃ c, c < 36 ∧ q = ad c
def pz_inj (ad : Nat → Nat) : Prop := ∀ i j, i < 36 → j < 36 → ad i = ad j → i = j
theorem pz_D {L : Nat} {ad : Nat → Nat} {cA : Nat → ClassId} {M : pm_M} (h : pz_inj ad) (sz : Nat) : va_D (pz_A ad sz) (pz_ws L ad cA M) := by
  refine ⟨fun i j p q hp hq e => ?_, fun k q hq => ?_⟩
  · obtain ⟨d, h1, rfl⟩ := pz_to hp
    obtain ⟨d', h2, rfl⟩ := pz_to hq
    exact h i j (pz_lt h1) (pz_lt h2) e
  · obtain ⟨d, h1, rfl⟩ := pz_to hq
    exact Or.inl ⟨k, pz_lt h1, rfl⟩
/-- what values may be -/
def pz_rv (v : pm_V) : Prop := match v with
  | .inl x => pm_R x
  | .inr (.inl _) => True
  | .inr (.inr x) => pm_R x
theorem pm_R_set {M : pm_M} {c : Nat} {j x : Int} (h : ∀ a b, pm_R (M a b)) (hx : pm_R x) : ∀ a b, pm_R (pm_set M c j x a b) := by
  intro a b
  unfold pm_set
  split
  · exact hx
  · exact h a b
/-- locals -/
def pz_lv (ad : Nat → Nat) (ls : pm_L) : List (Nat × Value) := ls.zipIdx.filterMap (fun q => q.1.map (fun v => (q.2, pz_v ad v)))
theorem pz_lv_mem {ad : Nat → Nat} {ls : pm_L} {q : Nat × Value} : q ∈ pz_lv ad ls ↔ ∃ v, ls[q.1]? = some (some v) ∧ q.2 = pz_v ad v := by
  unfold pz_lv
  rw [List.mem_filterMap]
  constructor
  · rintro ⟨⟨o, i⟩, h1, h2⟩
    have h3 := List.mem_zipIdx_iff_getElem?.mp h1
    cases o with
    | none => cases h2
    | some v =>
      have h4 : (i, pz_v ad v) = q := Option.some.inj h2
      subst h4
      exact ⟨v, h3, rfl⟩
  · rintro ⟨v, h1, h2⟩
    refine ⟨(some v, q.1), List.mem_zipIdx_iff_getElem?.mpr h1, ?_⟩
    show some (q.1, pz_v ad v) = some q
    rw [← h2]
theorem pz_cat {ad : Nat → Nat} {v : pm_V} (h : pm_is1 v = true) : (pz_v ad v).category = 1 := by
  rcases v with x | c | x
  · rfl
  · rfl
  · cases h
theorem pz_read {ad : Nat → Nat} {LS : Array Slot} {nL : Nat} {ls : pm_L} (h : lv_has LS nL (pz_lv ad ls)) {i : Nat} {v : pm_V} (hi : ls[i]? = some (some v)) : LS[i]? = some (.val (pz_v ad v)) :=
  h.2.2 (i, pz_v ad v) (pz_lv_mem.mpr ⟨v, hi, rfl⟩)
theorem pz_store {ad : Nat → Nat} {LS : Array Slot} {nL i : Nat} {ls : pm_L} {o : Option pm_V} {w : Value} (hok : ∀ v, some v ∈ ls → pz_rv v ∧ pm_is1 v = true) (ho : ∀ v, o = some v → w = pz_v ad v)
    (h : lv_has LS nL ((i, w) :: (pz_lv ad ls).filter (fun q => !(q.1 == i) && !(q.1 + 1 == i && q.2.category == 2)))) : lv_has LS nL (pz_lv ad (ls.set i o)) := by
  refine ⟨h.1, h.2.1, fun q hq => ?_⟩
  obtain ⟨v, h1, h2⟩ := pz_lv_mem.mp hq
  rw [List.getElem?_set] at h1
  by_cases hi : i = q.1
  · rw [if_pos hi] at h1
    have h3 : o = some v := by
      by_cases hl : q.1 < ls.length
      · rw [if_pos (by rw [hi]; exact hl)] at h1; exact Option.some.inj h1
      · rw [if_neg (by rw [hi]; exact hl)] at h1; cases h1
    have h4 : q = (i, w) := by
      obtain ⟨q1, q2⟩ := q
      dsimp only at hi h2 ⊢
      rw [hi, h2, ho v h3]
    rw [h4]
    exact h.2.2 (i, w) List.mem_cons_self
  · rw [if_neg hi] at h1
    refine h.2.2 q (List.mem_cons_of_mem _ (List.mem_filter.mpr ⟨pz_lv_mem.mpr ⟨v, h1, h2⟩, ?_⟩))
    have h5 : q.2.category = 1 := by rw [h2]; exact pz_cat (hok v (List.mem_of_getElem? h1)).2
    have h6 : (q.1 == i) = false := by rw [beq_eq_false_iff_ne]; exact fun z => hi z.symm
    rw [h6, h5]
    simp
theorem pz_okset {ls : pm_L} {i : Nat} {o : Option pm_V} (hok : ∀ v, some v ∈ ls → pz_rv v ∧ pm_is1 v = true) (ho : ∀ v, o = some v → pz_rv v ∧ pm_is1 v = true) : ∀ v, some v ∈ ls.set i o → pz_rv v ∧ pm_is1 v = true := by
  intro v hv
  rcases List.mem_or_eq_of_mem_set hv with h | h
  · exact hok v h
  · exact ho v h.symm
/-- numbers -/
theorem pz_int {x : Int} (h : pm_R x) : (Int32.ofInt x).toInt = x := by
  unfold pm_R at h
  rw [Int32.toInt_ofInt]
  show x.bmod 4294967296 = x
  rw [Int.bmod_eq_of_le (by omega) (by omega)]
theorem pz_i0 : (0 : Int32) = Int32.ofInt 0 := rfl
theorem pz_eq {x y : Int} (hx : pm_R x) (hy : pm_R y) : Int32.ofInt x = Int32.ofInt y ↔ x = y := by
  rw [← Int32.toInt_inj, pz_int hx, pz_int hy]
theorem pz_ltI {x y : Int} (hx : pm_R x) (hy : pm_R y) : Int32.ofInt x < Int32.ofInt y ↔ x < y := by
  rw [Int32.lt_iff_toInt_lt, pz_int hx, pz_int hy]
theorem pz_leI {x y : Int} (hx : pm_R x) (hy : pm_R y) : Int32.ofInt x ≤ Int32.ofInt y ↔ x ≤ y := by
  rw [Int32.le_iff_toInt_le, pz_int hx, pz_int hy]
theorem pz_in {i : Int} {n : Nat} (hi : 0 ≤ i ∧ i < n) (hn : n ≤ 100000) : vp_in (Int32.ofInt i) n := by
  rw [vp_in_iff, pz_int (by unfold pm_R; omega)]
  exact hi
theorem pz_clamp {i : Int} (h : pm_R i) (h0 : 0 ≤ i) : (Int32.ofInt i).toNatClampNeg = i.toNat := by
  show (Int32.ofInt i).toInt.toNat = i.toNat
  rw [pz_int h]
end
section
/-! NAMES, laid by wip/whole/gen/names.py out of the listing -/
def pz_cn (i : Nat) : String := ["GateBench", "GateBench$Circuit", "GateBench$Clauses", "GateBench$Checker", "GateBench$Search", "GateBench$Trail", "GateBenchModel", "GateBenchLaw"].getD i ""
def pz_xn (i : Nat) : String := ["java/util/NoSuchElementException", "java/lang/IllegalStateException", "java/lang/IllegalArgumentException"].getD i ""
def pz_fs (i : Nat) : List (String × String × Bool) := [[("circuit", "LGateBench$Circuit;", true), ("clauses", "LGateBench$Clauses;", true), ("checker", "LGateBench$Checker;", true), ("search", "LGateBench$Search;", true), ("list", "[I", true), ("listLength", "I", false), ("unproved", "I", false)],
  [("chooser", "[I", true), ("ifTrue", "[I", true), ("ifFalse", "[I", true), ("truth", "[Z", true), ("matters", "[Z", true), ("formulaOfInput", "[I", true), ("formulas", "I", false), ("inputs", "I", false)],
  [("literals", "[I", true), ("start", "[I", true), ("total", "I", false), ("used", "I", false)],
  [("clauses", "LGateBench$Clauses;", true), ("failsInStep", "[I", true), ("step", "I", false), ("trusted", "I", false), ("refuted", "Z", false)],
  [("circuit", "LGateBench$Circuit;", true), ("clauses", "LGateBench$Clauses;", true), ("checker", "LGateBench$Checker;", true), ("trail", "LGateBench$Trail;", true), ("firstWatch", "[I", true), ("nextWatch", "[I", true), ("involved", "[Z", true), ("hints", "[I", true), ("hintCount", "I", false), ("followed", "I", false)],
  [("holds", "[Z", true), ("forcedBy", "[I", true), ("order", "[I", true), ("levelStart", "[I", true), ("length", "I", false), ("levels", "I", false)],
  [("thrown", "I", false), ("formulas", "I", false), ("inputs", "I", false), ("listed", "I", false), ("kind", "[I", true), ("first", "[I", true), ("second", "[I", true), ("third", "[I", true), ("list", "[I", true), ("is", "[Z", true), ("kept", "[Z", true), ("values", "[Z", true), ("rest", "[I", true)]].getD i []
def pz_nf (i : Nat) : Nat := (pz_fs i).length
def pz_u (i : Nat) : u_T := fun j => (pz_cn i, ((pz_fs i).getD j ("", "", false)).1, ((pz_fs i).getD j ("", "", false)).2.1, ((pz_fs i).getD j ("", "", false)).2.2)
def pz_cl : List vw_C := [(pz_cn 0, pz_u 0, pz_nf 0), (pz_cn 1, pz_u 1, pz_nf 1), (pz_cn 2, pz_u 2, pz_nf 2), (pz_cn 3, pz_u 3, pz_nf 3), (pz_cn 4, pz_u 4, pz_nf 4), (pz_cn 5, pz_u 5, pz_nf 5), (pz_cn 6, pz_u 6, pz_nf 6)]
def pz_ys : List MethodName := [⟨"GateBench", "input", "()I"⟩,
  ⟨"GateBench", "not", "(I)I"⟩,
  ⟨"GateBench", "join", "(III)I"⟩,
  ⟨"GateBench", "choose", "(III)I"⟩,
  ⟨"GateBench", "want", "(I)I"⟩,
  ⟨"GateBench", "clear", "()I"⟩,
  ⟨"GateBench", "can", "()Z"⟩,
  ⟨"GateBench", "shorten", "()I"⟩,
  ⟨"GateBench", "wanted", "(I)I"⟩,
  ⟨"GateBench", "same", "(II)Z"⟩,
  ⟨"GateBench", "put", "(IZ)Z"⟩,
  ⟨"GateBench", "value", "(I)Z"⟩,
  ⟨"GateBench", "doubts", "()I"⟩,
  ⟨"GateBench", "count", "(I)I"⟩,
  ⟨"GateBench", "literal", "(I)I"⟩,
  ⟨"GateBench", "opposite", "(I)I"⟩,
  ⟨"GateBench", "formulaOf", "(I)I"⟩,
  ⟨"GateBench", "requireFormula", "(I)V"⟩,
  ⟨"GateBench", "requireRoom", "()V"⟩,
  ⟨"GateBench", "askForListWithout", "(I)V"⟩,
  ⟨"GateBench", "askForDifference", "(II)V"⟩,
  ⟨"GateBench", "findInputs", "()Z"⟩,
  ⟨"GateBench", "takeInputsFound", "()V"⟩,
  ⟨"GateBench", "dropWanted", "(I)V"⟩,
  ⟨"GateBench$Circuit", "addInput", "()I"⟩,
  ⟨"GateBench$Circuit", "addGate", "(III)I"⟩,
  ⟨"GateBench$Circuit", "evaluate", "(I)Z"⟩,
  ⟨"GateBench$Circuit", "isTrue", "(I)Z"⟩,
  ⟨"GateBench$Circuit", "forgetAims", "()V"⟩,
  ⟨"GateBench$Circuit", "aimAt", "(I)V"⟩,
  ⟨"GateBench$Circuit", "describeAims", "(LGateBench$Clauses;)V"⟩,
  ⟨"GateBench$Circuit", "describeGate", "(ILGateBench$Clauses;)V"⟩,
  ⟨"GateBench$Clauses", "removeAll", "()V"⟩,
  ⟨"GateBench$Clauses", "add", "(III)V"⟩,
  ⟨"GateBench$Clauses", "append", "(I)V"⟩,
  ⟨"GateBench$Clauses", "close", "()I"⟩,
  ⟨"GateBench$Clauses", "sizeOf", "(I)I"⟩,
  ⟨"GateBench$Checker", "begin", "()V"⟩,
  ⟨"GateBench$Checker", "hasRefutation", "()Z"⟩,
  ⟨"GateBench$Checker", "goThrough", "(I[II)V"⟩,
  ⟨"GateBench$Checker", "follows", "(I[II)Z"⟩,
  ⟨"GateBench$Checker", "literalLeft", "(I)I"⟩,
  ⟨"GateBench$Search", "makesTrue", "(I)Z"⟩,
  ⟨"GateBench$Search", "findsLeast", "()Z"⟩,
  ⟨"GateBench$Search", "startAnew", "()V"⟩,
  ⟨"GateBench$Search", "takeUpClauses", "()I"⟩,
  ⟨"GateBench$Search", "tryInputs", "()I"⟩,
  ⟨"GateBench$Search", "followAll", "()I"⟩,
  ⟨"GateBench$Search", "leaveFailing", "(I)I"⟩,
  ⟨"GateBench$Search", "placeToWatch", "(I)I"⟩,
  ⟨"GateBench$Search", "moveWatch", "(II)V"⟩,
  ⟨"GateBench$Search", "unlink", "(III)V"⟩,
  ⟨"GateBench$Search", "watchBoth", "(I)V"⟩,
  ⟨"GateBench$Search", "learn", "(I)I"⟩,
  ⟨"GateBench$Search", "involve", "(I)V"⟩,
  ⟨"GateBench$Search", "collectHints", "(I)V"⟩,
  ⟨"GateBench$Search", "applyLesson", "(I)V"⟩,
  ⟨"GateBench$Trail", "restart", "()V"⟩,
  ⟨"GateBench$Trail", "isOpen", "(I)Z"⟩,
  ⟨"GateBench$Trail", "attempt", "(I)V"⟩,
  ⟨"GateBench$Trail", "hold", "(II)V"⟩,
  ⟨"GateBench$Trail", "goBackTo", "(I)V"⟩,
  ⟨"GateBench$Trail", "cutTo", "(I)V"⟩,
  ⟨"GateBenchModel", "thrown", "()I"⟩,
  ⟨"GateBenchModel", "refuse", "(IZ)Z"⟩,
  ⟨"GateBenchModel", "none", "(I)Z"⟩,
  ⟨"GateBenchModel", "make", "(IIII)I"⟩,
  ⟨"GateBenchModel", "input", "()I"⟩,
  ⟨"GateBenchModel", "not", "(I)I"⟩,
  ⟨"GateBenchModel", "join", "(III)I"⟩,
  ⟨"GateBenchModel", "choose", "(III)I"⟩,
  ⟨"GateBenchModel", "want", "(I)I"⟩,
  ⟨"GateBenchModel", "clear", "()I"⟩,
  ⟨"GateBenchModel", "workOut", "()V"⟩,
  ⟨"GateBenchModel", "advance", "()Z"⟩,
  ⟨"GateBenchModel", "begin", "()V"⟩,
  ⟨"GateBenchModel", "back", "()V"⟩,
  ⟨"GateBenchModel", "some", "([II)Z"⟩,
  ⟨"GateBenchModel", "can", "()Z"⟩,
  ⟨"GateBenchModel", "shorten", "()I"⟩,
  ⟨"GateBenchModel", "wanted", "(I)I"⟩,
  ⟨"GateBenchModel", "same", "(II)Z"⟩,
  ⟨"GateBenchModel", "put", "(IZ)Z"⟩,
  ⟨"GateBenchModel", "value", "(I)Z"⟩,
  ⟨"GateBenchModel", "doubts", "()I"⟩,
  ⟨"GateBenchModel", "count", "(I)I"⟩,
  ⟨"GateBenchLaw", "input", "(LGateBench;[J)I"⟩,
  ⟨"GateBenchLaw", "not", "(LGateBench;I[J)I"⟩,
  ⟨"GateBenchLaw", "join", "(LGateBench;III[J)I"⟩,
  ⟨"GateBenchLaw", "choose", "(LGateBench;III[J)I"⟩,
  ⟨"GateBenchLaw", "want", "(LGateBench;I[J)I"⟩,
  ⟨"GateBenchLaw", "wanted", "(LGateBench;I[J)I"⟩,
  ⟨"GateBenchLaw", "same", "(LGateBench;II[J)I"⟩,
  ⟨"GateBenchLaw", "put", "(LGateBench;IZ[J)I"⟩,
  ⟨"GateBenchLaw", "value", "(LGateBench;I[J)I"⟩,
  ⟨"GateBenchLaw", "law", "([I)Z"⟩]
def pz_y (k : Nat) : MethodName := pz_ys.getD k ⟨"", "", ""⟩
def pz_rt (r : Nat) : Option FieldType := if r = 0 then none else if r = 1 then some .int else some .boolean
def pz_hl : List (Nat × List (Nat × Nat × Nat × Nat)) := [(86, [(0, 8, 11, 13)]), (87, [(0, 9, 12, 19), (0, 9, 15, 13)]), (88, [(0, 12, 15, 19), (0, 12, 19, 25), (0, 12, 23, 13)]), (89, [(0, 12, 15, 19), (0, 12, 19, 13)]), (90, [(0, 9, 12, 19), (0, 9, 15, 13)]), (91, [(0, 9, 12, 19)]), (92, [(0, 17, 20, 19)]), (93, [(0, 17, 20, 19)]), (94, [(0, 16, 19, 19)])]
def pz_hs (k : Nat) : List (Nat × Nat × Nat × Nat) := (pz_hl.lookup k).getD []
def pz_cw (k : Nat) : Cond := if (pz_hs k).isEmpty then .code (pz_y k) (pm_bytes k) (pm_mL k) (pz_rt (pm_ret k)) else .codeWith (pz_y k) (pm_bytes k) (pm_mL k) (pz_rt (pm_ret k)) (pz_hs k)
theorem pz_cl7 {ci : Nat} {q : vw_C} (h : pz_cl[ci]? = some q) : ci < 7 := (List.getElem?_eq_some_iff.mp h).1
theorem pz_clq : ∀ ci, ci < 7 → pz_cl[ci]? = some (pz_cn ci, pz_u ci, pz_nf ci) := by
  intro ci h
  rcases ci with _ | _ | _ | _ | _ | _ | _ | ci
  · rfl
  · rfl
  · rfl
  · rfl
  · rfl
  · rfl
  · rfl
  · omega
def pz_ft (ci : Nat) : Nat → FieldType := fun k => (parseFieldDescriptor (pz_u ci k).2.2.1).getD .int
theorem pz_ftok0 : ∀ ci, ci < 7 → ∀ k, k < pz_nf ci → parseFieldDescriptor (pz_u ci k).2.2.1 = some (pz_ft ci k) := by decide +kernel
theorem pz_nms0 : ∀ ci, ci < 7 → ∀ a, a < pz_nf ci → ∀ b, b < pz_nf ci → a ≠ b → (pz_u ci a).2.1 ≠ (pz_u ci b).2.1 := by decide +kernel
theorem pz_ftok {ci : Nat} {q : vw_C} (h : pz_cl[ci]? = some q) : ∀ k, k < pz_nf ci → parseFieldDescriptor (pz_u ci k).2.2.1 = some (pz_ft ci k) := pz_ftok0 ci (pz_cl7 h)
theorem pz_nms {ci : Nat} {q : vw_C} (h : pz_cl[ci]? = some q) : ∀ a, a < pz_nf ci → ∀ b, b < pz_nf ci → a ≠ b → (pz_u ci a).2.1 ≠ (pz_u ci b).2.1 := pz_nms0 ci (pz_cl7 h)
/-- the fields of a cell, against its kind -/
def pz_fchk (ci : Nat) (fs : List (Nat ⊕ Bool)) : Bool := decide (pz_nf ci = fs.length) && (List.range fs.length).all (fun j => match fs[j]? with
  | some (.inr b) => ((pz_u ci j).2.2.2 == false) && decide (parseFieldDescriptor (pz_u ci j).2.2.1 = some (if b then .boolean else .int))
  | _ => true)
theorem pz_cok0 {L c ci : Nat} {fs : List (Nat ⊕ Bool)} (h : (pm_cells L)[c]? = some (.inr (ci, fs))) : ci < 7 ∧ pz_fchk ci fs = true := by
  have hc := pz_lt h
  rcases c with _ | _ | _ | _ | _ | _ | c
  · cases h; decide +kernel
  · cases h; decide +kernel
  · cases h; decide +kernel
  · cases h; decide +kernel
  · cases h; decide +kernel
  · cases h; decide +kernel
  · rcases c with _ | _ | _ | _ | _ | _ | _ | _ | _ | _ | _ | _ | _ | _ | _ | _ | _ | _ | c
    iterate 18 cases h
    rcases c with _ | c
    · cases h; decide +kernel
    · rcases c with _ | _ | _ | _ | _ | _ | _ | _ | _ | _ | _ | c
      iterate 11 cases h
      omega
theorem pz_cok {L c ci : Nat} {fs : List (Nat ⊕ Bool)} (h : (pm_cells L)[c]? = some (.inr (ci, fs))) : pz_cl[ci]? = some (pz_cn ci, pz_u ci, pz_nf ci) ∧ pz_nf ci = fs.length ∧ ∀ j b, fs[j]? = some (.inr b) → (pz_u ci j).2.2.2 = false ∧ parseFieldDescriptor (pz_u ci j).2.2.1 = some (if b then .boolean else .int) := by
  obtain ⟨h1, h2⟩ := pz_cok0 h
  unfold pz_fchk at h2
  rw [Bool.and_eq_true, decide_eq_true_eq, List.all_eq_true] at h2
  refine ⟨pz_clq ci h1, h2.1, fun j b hj => ?_⟩
  have h3 := h2.2 j (List.mem_range.mpr (List.getElem?_eq_some_iff.mp hj).1)
  rw [hj] at h3
  dsimp only at h3
  rw [Bool.and_eq_true, beq_iff_eq, decide_eq_true_eq] at h3
  exact h3
theorem pz_len {L c kd n : Nat} (hL : L ≤ 100000) (h : (pm_cells L)[c]? = some (.inl (kd, n))) : n ≤ 100000 := by
  have hc := pz_lt h
  rcases c with _ | _ | _ | _ | _ | _ | c
  iterate 6 cases h
  rcases c with _ | _ | _ | _ | _ | _ | _ | _ | _ | _ | _ | _ | _ | _ | _ | _ | _ | _ | c
  iterate 18 (cases h; omega)
  rcases c with _ | c
  · cases h
  rcases c with _ | _ | _ | _ | _ | _ | _ | _ | _ | _ | _ | c
  iterate 10 (cases h; omega)
  · cases h; exact hL
  · omega
/-- what the tables say: fields, calls, layouts, code, exceptions -/
def pz_fl (U : State) (q : Nat × Nat × Nat × Nat) : Prop :=
  (Cond.fieldLink (pz_cn q.1) q.2.1 (pz_cn q.2.2.1) (pz_u q.2.2.1 q.2.2.2).2.1 (pz_u q.2.2.1 q.2.2.2).2.2.1).before #[] U = true ∨
  ∃ h : String, (Cond.fieldLinkNest (pz_cn q.1) q.2.1 (pz_cn q.2.2.1) (pz_u q.2.2.1 q.2.2.2).2.1 (pz_u q.2.2.1 q.2.2.2).2.2.1 h).before #[] U = true
def pz_ca (U : State) (q : Nat × Nat × Nat × Nat × Option Nat) : Prop :=
  ((Cond.methodLink (pz_cn q.1) q.2.1 (pz_y q.2.2.1)).before #[] U = true ∨ ∃ h : String, (Cond.methodLinkNest (pz_cn q.1) q.2.1 (pz_y q.2.2.1) h).before #[] U = true) ∧
  match q.2.2.2.2 with
  | none => (Cond.static (pz_y q.2.2.1)).before #[] U = true
  | some ci => (Cond.instanceMethod (pz_y q.2.2.1)).before #[] U = true ∧ (Cond.selects (pz_cn ci) (pz_y q.2.2.1) (pz_y q.2.2.1)).before #[] U = true
def pz_co (U : State) (k : Nat) : Prop := (pz_cw k).before #[] U = true ∧ (Cond.initialized (pz_cn (pm_own k))).before #[] U = true
/-- the words that stay under warmer tables -/
def pz_ok : Cond → Bool
  | .fieldLinkNest .. => true
  | .methodLinkNest .. => true
  | .stringRef .. => true
  | .castable .. => true
  | w => goodWord w
def pz_T (U : State) : Prop := ∀ w ∈ lw_tbl, pz_ok w = true → w.before #[] U = true
theorem pz_T.moved {s U : State} (hW : s.WarmedH U.vm) (h : pz_T s) : pz_T U := by
  intro w hw hk
  have h1 := h w hw hk
  cases w with
  | fieldLinkNest a i b n d hh => exact va_Nw.warmF hW h1
  | methodLinkNest a i x hh => exact va_Nw.warmM hW h1
  | stringRef a i t => exact Cond.stringRef_warmed hW h1
  | castable a b => exact va_Nw.warmC hW h1
  | _ => exact word_at hW (good_of_word hk) h1
theorem pz_T.same {s U : State} (hv : s.vm = U.vm) (h : pz_T s) : pz_T U := h.moved (by rw [← hv]; exact State.WarmedH.refl s)
theorem pz_lay0 : ∀ ci, ci < 7 → ∀ w ∈ u_ws (pz_cn ci) (pz_u ci) (pz_nf ci), w ∈ tables_1 ∧ pz_ok w = true := by decide +kernel
theorem pz_lays {U : State} (h : pz_T U) (ci : Nat) {q : vw_C} (hq : pz_cl[ci]? = some q) (args : Array Value) : ∀ w ∈ u_ws (pz_cn ci) (pz_u ci) (pz_nf ci), w.before args U = true := by
  intro w hw
  obtain ⟨h1, h2⟩ := pz_lay0 ci (pz_cl7 hq) w hw
  have h3 := h w (List.mem_append_right _ h1) h2
  have h4 : w.onTables = true := by
    obtain ⟨k, -, rfl⟩ := List.mem_map.mp hw
    unfold u_lay
    split <;> rfl
  exact va_tabs h4 rfl h3
end
