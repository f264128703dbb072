section
-- ===== PART A: goes FIRST, ahead of the names: the tables' words, and 'selects' of the private methods out of them =====
/-- a private method of a class that the tables say can be made, by its rows of tables_1 -/
def lw_okq (q : MethodName × Nat) : Prop := (q.1.cls ≠ "java/lang/invoke/MethodHandle" ∧ q.1.cls ≠ "java/lang/invoke/VarHandle") ∧ Cond.instantiable q.1.cls q.2 ∈ tables_1 ∧ Cond.privateMethod q.1 ∈ tables_1 ∧ Cond.instanceMethod q.1 ∈ tables_1
theorem lw_p0 : lw_okq (⟨"GateBench", "askForListWithout", "(I)V"⟩, 7) := ⟨⟨by decide +kernel, by decide +kernel⟩, List.mem_of_getElem? (i := 15) (by decide +kernel), List.mem_of_getElem? (i := 207) (by decide +kernel), List.mem_of_getElem? (i := 208) (by decide +kernel)⟩
theorem lw_p1 : lw_okq (⟨"GateBench$Circuit", "describeGate", "(ILGateBench$Clauses;)V"⟩, 8) := ⟨⟨by decide +kernel, by decide +kernel⟩, List.mem_of_getElem? (i := 23) (by decide +kernel), List.mem_of_getElem? (i := 249) (by decide +kernel), List.mem_of_getElem? (i := 250) (by decide +kernel)⟩
theorem lw_p2 : lw_okq (⟨"GateBench", "findInputs", "()Z"⟩, 7) := ⟨⟨by decide +kernel, by decide +kernel⟩, List.mem_of_getElem? (i := 15) (by decide +kernel), List.mem_of_getElem? (i := 256) (by decide +kernel), List.mem_of_getElem? (i := 257) (by decide +kernel)⟩
theorem lw_p3 : lw_okq (⟨"GateBench$Search", "takeUpClauses", "()I"⟩, 10) := ⟨⟨by decide +kernel, by decide +kernel⟩, List.mem_of_getElem? (i := 111) (by decide +kernel), List.mem_of_getElem? (i := 268) (by decide +kernel), List.mem_of_getElem? (i := 269) (by decide +kernel)⟩
theorem lw_p4 : lw_okq (⟨"GateBench$Search", "startAnew", "()V"⟩, 10) := ⟨⟨by decide +kernel, by decide +kernel⟩, List.mem_of_getElem? (i := 111) (by decide +kernel), List.mem_of_getElem? (i := 272) (by decide +kernel), List.mem_of_getElem? (i := 273) (by decide +kernel)⟩
theorem lw_p5 : lw_okq (⟨"GateBench$Trail", "cutTo", "(I)V"⟩, 6) := ⟨⟨by decide +kernel, by decide +kernel⟩, List.mem_of_getElem? (i := 117) (by decide +kernel), List.mem_of_getElem? (i := 280) (by decide +kernel), List.mem_of_getElem? (i := 281) (by decide +kernel)⟩
theorem lw_p6 : lw_okq (⟨"GateBench$Search", "watchBoth", "(I)V"⟩, 10) := ⟨⟨by decide +kernel, by decide +kernel⟩, List.mem_of_getElem? (i := 111) (by decide +kernel), List.mem_of_getElem? (i := 288) (by decide +kernel), List.mem_of_getElem? (i := 289) (by decide +kernel)⟩
theorem lw_p7 : lw_okq (⟨"GateBench$Search", "tryInputs", "()I"⟩, 10) := ⟨⟨by decide +kernel, by decide +kernel⟩, List.mem_of_getElem? (i := 111) (by decide +kernel), List.mem_of_getElem? (i := 302) (by decide +kernel), List.mem_of_getElem? (i := 303) (by decide +kernel)⟩
theorem lw_p8 : lw_okq (⟨"GateBench$Search", "followAll", "()I"⟩, 10) := ⟨⟨by decide +kernel, by decide +kernel⟩, List.mem_of_getElem? (i := 111) (by decide +kernel), List.mem_of_getElem? (i := 306) (by decide +kernel), List.mem_of_getElem? (i := 307) (by decide +kernel)⟩
theorem lw_p9 : lw_okq (⟨"GateBench$Search", "leaveFailing", "(I)I"⟩, 10) := ⟨⟨by decide +kernel, by decide +kernel⟩, List.mem_of_getElem? (i := 111) (by decide +kernel), List.mem_of_getElem? (i := 310) (by decide +kernel), List.mem_of_getElem? (i := 311) (by decide +kernel)⟩
theorem lw_p10 : lw_okq (⟨"GateBench$Search", "placeToWatch", "(I)I"⟩, 10) := ⟨⟨by decide +kernel, by decide +kernel⟩, List.mem_of_getElem? (i := 111) (by decide +kernel), List.mem_of_getElem? (i := 314) (by decide +kernel), List.mem_of_getElem? (i := 315) (by decide +kernel)⟩
theorem lw_p11 : lw_okq (⟨"GateBench$Search", "moveWatch", "(II)V"⟩, 10) := ⟨⟨by decide +kernel, by decide +kernel⟩, List.mem_of_getElem? (i := 111) (by decide +kernel), List.mem_of_getElem? (i := 318) (by decide +kernel), List.mem_of_getElem? (i := 319) (by decide +kernel)⟩
theorem lw_p12 : lw_okq (⟨"GateBench$Search", "unlink", "(III)V"⟩, 10) := ⟨⟨by decide +kernel, by decide +kernel⟩, List.mem_of_getElem? (i := 111) (by decide +kernel), List.mem_of_getElem? (i := 322) (by decide +kernel), List.mem_of_getElem? (i := 323) (by decide +kernel)⟩
theorem lw_p13 : lw_okq (⟨"GateBench$Search", "learn", "(I)I"⟩, 10) := ⟨⟨by decide +kernel, by decide +kernel⟩, List.mem_of_getElem? (i := 111) (by decide +kernel), List.mem_of_getElem? (i := 332) (by decide +kernel), List.mem_of_getElem? (i := 333) (by decide +kernel)⟩
theorem lw_p14 : lw_okq (⟨"GateBench$Search", "involve", "(I)V"⟩, 10) := ⟨⟨by decide +kernel, by decide +kernel⟩, List.mem_of_getElem? (i := 111) (by decide +kernel), List.mem_of_getElem? (i := 336) (by decide +kernel), List.mem_of_getElem? (i := 337) (by decide +kernel)⟩
theorem lw_p15 : lw_okq (⟨"GateBench$Search", "collectHints", "(I)V"⟩, 10) := ⟨⟨by decide +kernel, by decide +kernel⟩, List.mem_of_getElem? (i := 111) (by decide +kernel), List.mem_of_getElem? (i := 343) (by decide +kernel), List.mem_of_getElem? (i := 344) (by decide +kernel)⟩
def lw_privs_1 : List (MethodName × Nat) := [(⟨"GateBench", "askForListWithout", "(I)V"⟩, 7), (⟨"GateBench$Circuit", "describeGate", "(ILGateBench$Clauses;)V"⟩, 8), (⟨"GateBench", "findInputs", "()Z"⟩, 7), (⟨"GateBench$Search", "takeUpClauses", "()I"⟩, 10), (⟨"GateBench$Search", "startAnew", "()V"⟩, 10), (⟨"GateBench$Trail", "cutTo", "(I)V"⟩, 6), (⟨"GateBench$Search", "watchBoth", "(I)V"⟩, 10), (⟨"GateBench$Search", "tryInputs", "()I"⟩, 10), (⟨"GateBench$Search", "followAll", "()I"⟩, 10), (⟨"GateBench$Search", "leaveFailing", "(I)I"⟩, 10), (⟨"GateBench$Search", "placeToWatch", "(I)I"⟩, 10), (⟨"GateBench$Search", "moveWatch", "(II)V"⟩, 10), (⟨"GateBench$Search", "unlink", "(III)V"⟩, 10), (⟨"GateBench$Search", "learn", "(I)I"⟩, 10), (⟨"GateBench$Search", "involve", "(I)V"⟩, 10), (⟨"GateBench$Search", "collectHints", "(I)V"⟩, 10)]
theorem lw_r1 : ∀ q ∈ lw_privs_1, lw_okq q := List.forall_mem_cons.mpr ⟨lw_p0, List.forall_mem_cons.mpr ⟨lw_p1, List.forall_mem_cons.mpr ⟨lw_p2, List.forall_mem_cons.mpr ⟨lw_p3, List.forall_mem_cons.mpr ⟨lw_p4, List.forall_mem_cons.mpr ⟨lw_p5, List.forall_mem_cons.mpr ⟨lw_p6, List.forall_mem_cons.mpr ⟨lw_p7, List.forall_mem_cons.mpr ⟨lw_p8, List.forall_mem_cons.mpr ⟨lw_p9, List.forall_mem_cons.mpr ⟨lw_p10, List.forall_mem_cons.mpr ⟨lw_p11, List.forall_mem_cons.mpr ⟨lw_p12, List.forall_mem_cons.mpr ⟨lw_p13, List.forall_mem_cons.mpr ⟨lw_p14, List.forall_mem_cons.mpr ⟨lw_p15, fun _ h => absurd h List.not_mem_nil⟩⟩⟩⟩⟩⟩⟩⟩⟩⟩⟩⟩⟩⟩⟩⟩
theorem lw_p16 : lw_okq (⟨"GateBench$Checker", "follows", "(I[II)Z"⟩, 5) := ⟨⟨by decide +kernel, by decide +kernel⟩, List.mem_of_getElem? (i := 89) (by decide +kernel), List.mem_of_getElem? (i := 351) (by decide +kernel), List.mem_of_getElem? (i := 352) (by decide +kernel)⟩
theorem lw_p17 : lw_okq (⟨"GateBench$Checker", "literalLeft", "(I)I"⟩, 5) := ⟨⟨by decide +kernel, by decide +kernel⟩, List.mem_of_getElem? (i := 89) (by decide +kernel), List.mem_of_getElem? (i := 355) (by decide +kernel), List.mem_of_getElem? (i := 356) (by decide +kernel)⟩
theorem lw_p18 : lw_okq (⟨"GateBench$Search", "applyLesson", "(I)V"⟩, 10) := ⟨⟨by decide +kernel, by decide +kernel⟩, List.mem_of_getElem? (i := 111) (by decide +kernel), List.mem_of_getElem? (i := 361) (by decide +kernel), List.mem_of_getElem? (i := 362) (by decide +kernel)⟩
theorem lw_p19 : lw_okq (⟨"GateBench", "takeInputsFound", "()V"⟩, 7) := ⟨⟨by decide +kernel, by decide +kernel⟩, List.mem_of_getElem? (i := 15) (by decide +kernel), List.mem_of_getElem? (i := 373) (by decide +kernel), List.mem_of_getElem? (i := 374) (by decide +kernel)⟩
theorem lw_p20 : lw_okq (⟨"GateBench", "dropWanted", "(I)V"⟩, 7) := ⟨⟨by decide +kernel, by decide +kernel⟩, List.mem_of_getElem? (i := 15) (by decide +kernel), List.mem_of_getElem? (i := 385) (by decide +kernel), List.mem_of_getElem? (i := 386) (by decide +kernel)⟩
theorem lw_p21 : lw_okq (⟨"java/lang/Throwable", "fillInStackTrace", "(I)Ljava/lang/Throwable;"⟩, 6) := ⟨⟨by decide +kernel, by decide +kernel⟩, List.mem_of_getElem? (i := 443) (by decide +kernel), List.mem_of_getElem? (i := 441) (by decide +kernel), List.mem_of_getElem? (i := 442) (by decide +kernel)⟩
theorem lw_p22 : lw_okq (⟨"GateBench", "requireRoom", "()V"⟩, 7) := ⟨⟨by decide +kernel, by decide +kernel⟩, List.mem_of_getElem? (i := 15) (by decide +kernel), List.mem_of_getElem? (i := 473) (by decide +kernel), List.mem_of_getElem? (i := 474) (by decide +kernel)⟩
theorem lw_p23 : lw_okq (⟨"GateBench", "requireFormula", "(I)V"⟩, 7) := ⟨⟨by decide +kernel, by decide +kernel⟩, List.mem_of_getElem? (i := 15) (by decide +kernel), List.mem_of_getElem? (i := 494) (by decide +kernel), List.mem_of_getElem? (i := 495) (by decide +kernel)⟩
theorem lw_p24 : lw_okq (⟨"GateBench", "askForDifference", "(II)V"⟩, 7) := ⟨⟨by decide +kernel, by decide +kernel⟩, List.mem_of_getElem? (i := 15) (by decide +kernel), List.mem_of_getElem? (i := 570) (by decide +kernel), List.mem_of_getElem? (i := 571) (by decide +kernel)⟩
theorem lw_p25 : lw_okq (⟨"GateBench$Circuit", "isTrue", "(I)Z"⟩, 8) := ⟨⟨by decide +kernel, by decide +kernel⟩, List.mem_of_getElem? (i := 23) (by decide +kernel), List.mem_of_getElem? (i := 593) (by decide +kernel), List.mem_of_getElem? (i := 594) (by decide +kernel)⟩
theorem lw_p26 : lw_okq (⟨"GateBenchModel", "refuse", "(IZ)Z"⟩, 13) := ⟨⟨by decide +kernel, by decide +kernel⟩, List.mem_of_getElem? (i := 597) (by decide +kernel), List.mem_of_getElem? (i := 651) (by decide +kernel), List.mem_of_getElem? (i := 652) (by decide +kernel)⟩
theorem lw_p27 : lw_okq (⟨"GateBenchModel", "make", "(IIII)I"⟩, 13) := ⟨⟨by decide +kernel, by decide +kernel⟩, List.mem_of_getElem? (i := 597) (by decide +kernel), List.mem_of_getElem? (i := 655) (by decide +kernel), List.mem_of_getElem? (i := 656) (by decide +kernel)⟩
theorem lw_p28 : lw_okq (⟨"GateBenchModel", "none", "(I)Z"⟩, 13) := ⟨⟨by decide +kernel, by decide +kernel⟩, List.mem_of_getElem? (i := 597) (by decide +kernel), List.mem_of_getElem? (i := 663) (by decide +kernel), List.mem_of_getElem? (i := 664) (by decide +kernel)⟩
theorem lw_p29 : lw_okq (⟨"GateBenchModel", "some", "([II)Z"⟩, 13) := ⟨⟨by decide +kernel, by decide +kernel⟩, List.mem_of_getElem? (i := 597) (by decide +kernel), List.mem_of_getElem? (i := 687) (by decide +kernel), List.mem_of_getElem? (i := 688) (by decide +kernel)⟩
theorem lw_p30 : lw_okq (⟨"GateBenchModel", "begin", "()V"⟩, 13) := ⟨⟨by decide +kernel, by decide +kernel⟩, List.mem_of_getElem? (i := 597) (by decide +kernel), List.mem_of_getElem? (i := 691) (by decide +kernel), List.mem_of_getElem? (i := 692) (by decide +kernel)⟩
theorem lw_p31 : lw_okq (⟨"GateBenchModel", "workOut", "()V"⟩, 13) := ⟨⟨by decide +kernel, by decide +kernel⟩, List.mem_of_getElem? (i := 597) (by decide +kernel), List.mem_of_getElem? (i := 695) (by decide +kernel), List.mem_of_getElem? (i := 696) (by decide +kernel)⟩
def lw_privs_2 : List (MethodName × Nat) := [(⟨"GateBench$Checker", "follows", "(I[II)Z"⟩, 5), (⟨"GateBench$Checker", "literalLeft", "(I)I"⟩, 5), (⟨"GateBench$Search", "applyLesson", "(I)V"⟩, 10), (⟨"GateBench", "takeInputsFound", "()V"⟩, 7), (⟨"GateBench", "dropWanted", "(I)V"⟩, 7), (⟨"java/lang/Throwable", "fillInStackTrace", "(I)Ljava/lang/Throwable;"⟩, 6), (⟨"GateBench", "requireRoom", "()V"⟩, 7), (⟨"GateBench", "requireFormula", "(I)V"⟩, 7), (⟨"GateBench", "askForDifference", "(II)V"⟩, 7), (⟨"GateBench$Circuit", "isTrue", "(I)Z"⟩, 8), (⟨"GateBenchModel", "refuse", "(IZ)Z"⟩, 13), (⟨"GateBenchModel", "make", "(IIII)I"⟩, 13), (⟨"GateBenchModel", "none", "(I)Z"⟩, 13), (⟨"GateBenchModel", "some", "([II)Z"⟩, 13), (⟨"GateBenchModel", "begin", "()V"⟩, 13), (⟨"GateBenchModel", "workOut", "()V"⟩, 13)]
theorem lw_r2 : ∀ q ∈ lw_privs_2, lw_okq q := List.forall_mem_cons.mpr ⟨lw_p16, List.forall_mem_cons.mpr ⟨lw_p17, List.forall_mem_cons.mpr ⟨lw_p18, List.forall_mem_cons.mpr ⟨lw_p19, List.forall_mem_cons.mpr ⟨lw_p20, List.forall_mem_cons.mpr ⟨lw_p21, List.forall_mem_cons.mpr ⟨lw_p22, List.forall_mem_cons.mpr ⟨lw_p23, List.forall_mem_cons.mpr ⟨lw_p24, List.forall_mem_cons.mpr ⟨lw_p25, List.forall_mem_cons.mpr ⟨lw_p26, List.forall_mem_cons.mpr ⟨lw_p27, List.forall_mem_cons.mpr ⟨lw_p28, List.forall_mem_cons.mpr ⟨lw_p29, List.forall_mem_cons.mpr ⟨lw_p30, List.forall_mem_cons.mpr ⟨lw_p31, fun _ h => absurd h List.not_mem_nil⟩⟩⟩⟩⟩⟩⟩⟩⟩⟩⟩⟩⟩⟩⟩⟩
theorem lw_p32 : lw_okq (⟨"GateBenchModel", "advance", "()Z"⟩, 13) := ⟨⟨by decide +kernel, by decide +kernel⟩, List.mem_of_getElem? (i := 597) (by decide +kernel), List.mem_of_getElem? (i := 699) (by decide +kernel), List.mem_of_getElem? (i := 700) (by decide +kernel)⟩
theorem lw_p33 : lw_okq (⟨"GateBenchModel", "back", "()V"⟩, 13) := ⟨⟨by decide +kernel, by decide +kernel⟩, List.mem_of_getElem? (i := 597) (by decide +kernel), List.mem_of_getElem? (i := 703) (by decide +kernel), List.mem_of_getElem? (i := 704) (by decide +kernel)⟩
def lw_privs_3 : List (MethodName × Nat) := [(⟨"GateBenchModel", "advance", "()Z"⟩, 13), (⟨"GateBenchModel", "back", "()V"⟩, 13)]
theorem lw_r3 : ∀ q ∈ lw_privs_3, lw_okq q := List.forall_mem_cons.mpr ⟨lw_p32, List.forall_mem_cons.mpr ⟨lw_p33, fun _ h => absurd h List.not_mem_nil⟩⟩
def lw_privs : List (MethodName × Nat) := lw_privs_1 ++ (lw_privs_2 ++ (lw_privs_3))
def lw_tbl : List Cond := k2_sels lw_privs ++ tables_1
theorem lw_privs_ok : ∀ q ∈ lw_privs, lw_okq q := by
  show ∀ q ∈ lw_privs_1 ++ (lw_privs_2 ++ (lw_privs_3)), lw_okq q
  exact List.forall_mem_append.mpr ⟨lw_r1, List.forall_mem_append.mpr ⟨lw_r2, lw_r3⟩⟩
-- ===== end of PART A; then your names; then what follows =====
end
section
/-! THE PURE MACHINE: what the methods do, over a memory of whole numbers. Cells have fixed numbers; memory: cell, place, number. -/
abbrev pm_V : Type := Int ⊕ (Nat ⊕ Int)
abbrev pm_M : Type := Nat → Int → Int
abbrev pm_L : Type := List (Option pm_V)
/-- a cell: an array (kind 0 int, 1 boolean, 2 long; its length), or an object (its kind; its fields: a cell, or a number: is it a boolean) -/
abbrev pm_D : Type := (Nat × Nat) ⊕ (Nat × List (Nat ⊕ Bool))
/-- method, pc, locals, operand stack, memory -/
abbrev pm_C : Type := Nat × Nat × pm_L × List pm_V × pm_M
/-- an answer: it returned (with what), or threw (which kind) -/
abbrev pm_A : Type := Option pm_V ⊕ Nat
abbrev pm_P : Type := pm_A → pm_M → Prop
def pm_R (x : Int) : Prop := -2147483648 ≤ x ∧ x ≤ 2147483647
def pm_set (M : pm_M) (c : Nat) (j x : Int) : pm_M := fun a b => if a = c ∧ b = j then x else M a b
/-- the opposite: one flipped bit -/
def pm_op (x : Int) : Int := if x % 2 = 0 then x + 1 else x - 1
def pm_cmp (c : Jvm.ClassFile.Cond) (x y : Int) : Prop := match c with
  | .eq => x = y
  | .ne => ¬ x = y
  | .lt => x < y
  | .ge => y ≤ x
  | .gt => y < x
  | .le => x ≤ y
def pm_bit (x : Int) : Prop := x = 0 ∨ x = 1
def pm_is1 (v : pm_V) : Bool := match v with
  | .inr (.inr _) => false
  | _ => true
def pm_ent (n : Nat) (as : List pm_V) : pm_L := as.map some ++ List.replicate (n - as.length) none
def pm_arr (D : List pm_D) (c kd : Nat) (i : Int) : Prop := ∃ n : Nat, D[c]? = some (.inl (kd, n)) ∧ 0 ≤ i ∧ i < n
/-! THE TABLES of the pure machine, laid by wip/whole/gen/tables.py out of the listing. Kinds of objects: 0 GateBench, 1 GateBench$Circuit, 2 GateBench$Clauses, 3 GateBench$Checker, 4 GateBench$Search, 5 GateBench$Trail, 6 GateBenchModel, 7 GateBenchLaw. -/
def pm_cells (L : Nat) : List pm_D := [.inr (0, [.inl 1, .inl 2, .inl 3, .inl 4, .inl 6, .inr false, .inr false]),
  .inr (1, [.inl 7, .inl 8, .inl 9, .inl 10, .inl 11, .inl 12, .inr false, .inr false]),
  .inr (2, [.inl 13, .inl 14, .inr false, .inr false]),
  .inr (3, [.inl 2, .inl 15, .inr false, .inr false, .inr true]),
  .inr (4, [.inl 1, .inl 2, .inl 3, .inl 5, .inl 16, .inl 17, .inl 18, .inl 19, .inr false, .inr false]),
  .inr (5, [.inl 20, .inl 21, .inl 22, .inl 23, .inr false, .inr false]),
  .inl (0, 20),
  .inl (0, 2000),
  .inl (0, 2000),
  .inl (0, 2000),
  .inl (1, 2000),
  .inl (1, 2000),
  .inl (0, 12),
  .inl (0, 85212),
  .inl (0, 16117),
  .inl (0, 4000),
  .inl (0, 4000),
  .inl (0, 32232),
  .inl (1, 2000),
  .inl (0, 2001),
  .inl (1, 4000),
  .inl (0, 4000),
  .inl (0, 2000),
  .inl (0, 12),
  .inr (6, [.inr false, .inr false, .inr false, .inr false, .inl 25, .inl 26, .inl 27, .inl 28, .inl 29, .inl 30, .inl 31, .inl 32, .inl 33]),
  .inl (0, 2000),
  .inl (0, 2000),
  .inl (0, 2000),
  .inl (0, 2000),
  .inl (0, 20),
  .inl (1, 12),
  .inl (1, 12),
  .inl (1, 2000),
  .inl (0, 20),
  .inl (2, 1),
  .inl (0, L)]
def pm_codes : List (ByteArray × Nat × Nat × Nat × Nat) := [
  (prog_1_method_2_code, 0, 1, 1, 8),
  (prog_1_method_3_code, 0, 2, 1, 8),
  (prog_1_method_4_code, 0, 4, 1, 8),
  (prog_1_method_5_code, 0, 4, 1, 8),
  (prog_1_method_6_code, 0, 2, 1, 8),
  (prog_1_method_7_code, 0, 2, 1, 0),
  (prog_1_method_8_code, 0, 2, 2, 7),
  (prog_1_method_9_code, 0, 3, 1, 7),
  (prog_1_method_10_code, 0, 2, 1, 7),
  (prog_1_method_11_code, 0, 4, 2, 8),
  (prog_1_method_12_code, 0, 5, 2, 7),
  (prog_1_method_13_code, 0, 2, 2, 8),
  (prog_1_method_14_code, 0, 1, 1, 0),
  (prog_1_method_15_code, 0, 2, 1, 0),
  (prog_1_method_16_code, 0, 1, 1, 0),
  (prog_1_method_17_code, 0, 1, 1, 0),
  (prog_1_method_18_code, 0, 1, 1, 0),
  (prog_1_method_19_code, 0, 2, 0, 7),
  (prog_1_method_20_code, 0, 1, 0, 7),
  (prog_1_method_21_code, 0, 3, 0, 4),
  (prog_1_method_22_code, 0, 3, 0, 4),
  (prog_1_method_23_code, 0, 2, 2, 6),
  (prog_1_method_24_code, 0, 3, 0, 2),
  (prog_1_method_25_code, 0, 3, 0, 0),
  (prog_3_method_2_code, 1, 1, 1, 1),
  (prog_3_method_3_code, 1, 5, 1, 0),
  (prog_3_method_4_code, 1, 3, 2, 2),
  (prog_3_method_5_code, 1, 2, 2, 1),
  (prog_3_method_6_code, 1, 2, 0, 0),
  (prog_3_method_7_code, 1, 2, 0, 0),
  (prog_3_method_8_code, 1, 3, 0, 3),
  (prog_3_method_9_code, 1, 7, 0, 2),
  (prog_4_method_2_code, 2, 1, 0, 0),
  (prog_4_method_3_code, 2, 4, 0, 1),
  (prog_4_method_4_code, 2, 2, 0, 0),
  (prog_4_method_5_code, 2, 2, 1, 0),
  (prog_4_method_6_code, 2, 2, 1, 0),
  (prog_2_method_2_code, 3, 1, 0, 0),
  (prog_2_method_3_code, 3, 1, 2, 0),
  (prog_2_method_4_code, 3, 4, 0, 2),
  (prog_2_method_5_code, 3, 6, 2, 1),
  (prog_2_method_6_code, 3, 4, 1, 0),
  (prog_5_method_2_code, 4, 2, 2, 1),
  (prog_5_method_3_code, 4, 4, 2, 5),
  (prog_5_method_4_code, 4, 2, 0, 2),
  (prog_5_method_5_code, 4, 5, 1, 3),
  (prog_5_method_6_code, 4, 4, 1, 4),
  (prog_5_method_7_code, 4, 2, 1, 3),
  (prog_5_method_8_code, 4, 9, 1, 2),
  (prog_5_method_9_code, 4, 3, 1, 1),
  (prog_5_method_10_code, 4, 5, 0, 0),
  (prog_5_method_11_code, 4, 4, 0, 0),
  (prog_5_method_12_code, 4, 5, 0, 0),
  (prog_5_method_13_code, 4, 4, 1, 3),
  (prog_5_method_14_code, 4, 3, 0, 1),
  (prog_5_method_15_code, 4, 4, 0, 1),
  (prog_5_method_16_code, 4, 3, 0, 2),
  (prog_6_method_2_code, 5, 1, 0, 1),
  (prog_6_method_3_code, 5, 2, 2, 1),
  (prog_6_method_4_code, 5, 2, 0, 1),
  (prog_6_method_5_code, 5, 3, 0, 0),
  (prog_6_method_6_code, 5, 3, 0, 1),
  (prog_6_method_7_code, 5, 3, 0, 0),
  (prog_8_method_2_code, 6, 1, 1, 0),
  (prog_8_method_3_code, 6, 3, 2, 0),
  (prog_8_method_4_code, 6, 2, 2, 0),
  (prog_8_method_5_code, 6, 5, 1, 0),
  (prog_8_method_6_code, 6, 1, 1, 1),
  (prog_8_method_7_code, 6, 2, 1, 1),
  (prog_8_method_8_code, 6, 4, 1, 1),
  (prog_8_method_9_code, 6, 4, 1, 1),
  (prog_8_method_10_code, 6, 2, 1, 1),
  (prog_8_method_11_code, 6, 2, 1, 0),
  (prog_8_method_12_code, 6, 2, 0, 0),
  (prog_8_method_13_code, 6, 2, 2, 0),
  (prog_8_method_14_code, 6, 2, 0, 0),
  (prog_8_method_15_code, 6, 2, 0, 0),
  (prog_8_method_16_code, 6, 6, 2, 1),
  (prog_8_method_17_code, 6, 1, 2, 2),
  (prog_8_method_18_code, 6, 4, 1, 2),
  (prog_8_method_19_code, 6, 2, 1, 1),
  (prog_8_method_20_code, 6, 4, 2, 1),
  (prog_8_method_21_code, 6, 4, 2, 1),
  (prog_8_method_22_code, 6, 2, 2, 1),
  (prog_8_method_23_code, 6, 1, 1, 0),
  (prog_8_method_24_code, 6, 2, 1, 0),
  (method_3_code, 7, 3, 1, 9),
  (method_4_code, 7, 4, 1, 9),
  (method_5_code, 7, 6, 1, 9),
  (method_6_code, 7, 6, 1, 9),
  (method_7_code, 7, 4, 1, 9),
  (method_8_code, 7, 4, 1, 8),
  (method_9_code, 7, 5, 1, 9),
  (method_10_code, 7, 5, 1, 8),
  (method_11_code, 7, 4, 1, 9),
  (code, 7, 7, 2, 10)]
def pm_row (k : Nat) : ByteArray × Nat × Nat × Nat × Nat := pm_codes.getD k (code, 0, 0, 0, 0)
abbrev pm_bytes (k : Nat) : ByteArray := (pm_row k).1
abbrev pm_own (k : Nat) : Nat := (pm_row k).2.1
abbrev pm_mL (k : Nat) : Nat := (pm_row k).2.2.1
abbrev pm_ret (k : Nat) : Nat := (pm_row k).2.2.2.1
abbrev pm_rank (k : Nat) : Nat := (pm_row k).2.2.2.2
/-- kind of the code's owner, index: kind of the object, number of the field -/
def pm_fld : List (Nat × Nat × Nat × Nat) := [(0, 12, 0, 0), (0, 19, 0, 1), (0, 28, 0, 2), (0, 37, 0, 3), (0, 41, 0, 4), (0, 45, 1, 7), (0, 83, 0, 5), (0, 112, 1, 5), (0, 115, 1, 3), (0, 123, 0, 6), (0, 126, 1, 6), (1, 9, 1, 0), (1, 15, 1, 1), (1, 18, 1, 2), (1, 21, 1, 3), (1, 25, 1, 4), (1, 28, 1, 5), (1, 31, 1, 6), (1, 35, 1, 7), (2, 10, 2, 0), (2, 16, 2, 1), (2, 19, 2, 2), (2, 23, 2, 3), (3, 9, 3, 1), (3, 15, 3, 0), (3, 19, 2, 2), (3, 25, 3, 3), (3, 28, 3, 4), (3, 40, 3, 2), (3, 43, 2, 1), (3, 46, 2, 0), (4, 12, 4, 3), (4, 18, 4, 4), (4, 22, 4, 5), (4, 25, 4, 6), (4, 29, 4, 7), (4, 32, 4, 0), (4, 36, 4, 1), (4, 40, 4, 2), (4, 44, 5, 0), (4, 73, 4, 9), (4, 77, 1, 6), (4, 85, 2, 2), (4, 88, 2, 0), (4, 91, 2, 1), (4, 111, 1, 7), (4, 114, 1, 5), (4, 120, 5, 4), (4, 123, 5, 2), (4, 145, 5, 1), (4, 157, 4, 8), (5, 9, 5, 0), (5, 15, 5, 1), (5, 19, 5, 2), (5, 22, 5, 3), (5, 29, 5, 5), (5, 37, 5, 4), (6, 7, 6, 0), (6, 13, 6, 1), (6, 16, 6, 2), (6, 19, 6, 3), (6, 22, 6, 4), (6, 26, 6, 5), (6, 29, 6, 6), (6, 32, 6, 7), (6, 35, 6, 8), (6, 38, 6, 9), (6, 42, 6, 10), (6, 45, 6, 11), (6, 48, 6, 12)]
/-- kind of the code's owner, index: the method, how many arguments, the receiver's kind -/
def pm_call : List (Nat × Nat × Nat × Nat × Option Nat) := [(0, 56, 18, 1, some 0), (0, 59, 24, 1, some 1), (0, 63, 17, 2, some 0), (0, 67, 14, 1, none), (0, 71, 25, 4, some 1), (0, 80, 15, 1, none), (0, 88, 19, 2, some 0), (0, 91, 21, 1, some 0), (0, 95, 22, 1, some 0), (0, 98, 23, 2, some 0), (0, 106, 20, 3, some 0), (0, 119, 26, 2, some 1), (0, 133, 32, 1, some 2), (0, 136, 28, 1, some 1), (0, 139, 33, 4, some 2), (0, 143, 29, 2, some 1), (0, 146, 30, 2, some 1), (0, 149, 37, 1, some 3), (0, 152, 43, 1, some 4), (0, 155, 38, 1, some 3), (0, 158, 42, 2, some 4), (1, 38, 25, 4, some 1), (1, 42, 27, 2, some 1), (1, 46, 16, 1, none), (1, 50, 29, 2, some 1), (1, 54, 31, 3, some 1), (1, 58, 14, 1, none), (1, 61, 15, 1, none), (1, 64, 33, 4, some 2), (2, 26, 15, 1, none), (2, 30, 34, 2, some 2), (2, 34, 35, 1, some 2), (3, 32, 40, 4, some 3), (3, 36, 36, 2, some 2), (3, 49, 41, 2, some 3), (3, 52, 15, 1, none), (4, 47, 14, 1, none), (4, 51, 45, 1, some 4), (4, 55, 46, 1, some 4), (4, 58, 53, 2, some 4), (4, 61, 36, 2, some 2), (4, 66, 56, 2, some 4), (4, 70, 57, 1, some 5), (4, 82, 44, 1, some 4), (4, 94, 52, 2, some 4), (4, 97, 15, 1, none), (4, 100, 58, 2, some 5), (4, 104, 60, 3, some 5), (4, 108, 47, 1, some 4), (4, 117, 59, 2, some 5), (4, 126, 48, 2, some 4), (4, 129, 49, 2, some 4), (4, 132, 50, 3, some 4), (4, 135, 51, 4, some 4), (4, 139, 54, 2, some 4), (4, 142, 16, 1, none), (4, 148, 34, 2, some 2), (4, 151, 35, 1, some 2), (4, 154, 55, 2, some 4), (4, 160, 39, 4, some 3), (4, 166, 61, 2, some 5), (5, 25, 62, 2, some 5), (5, 33, 15, 1, none), (5, 40, 60, 3, some 5), (6, 51, 64, 3, some 6), (6, 55, 66, 5, some 6), (6, 59, 65, 2, some 6), (6, 63, 75, 1, some 6), (6, 66, 73, 1, some 6), (6, 69, 74, 1, some 6), (6, 73, 76, 1, some 6), (6, 76, 77, 3, some 6), (7, 7, 0, 1, some 0), (7, 15, 1, 2, some 0), (7, 21, 2, 4, some 0), (7, 27, 3, 4, some 0), (7, 30, 4, 2, some 0), (7, 33, 8, 2, some 0), (7, 36, 9, 3, some 0), (7, 40, 10, 3, some 0), (7, 44, 11, 2, some 0), (7, 52, 86, 2, none), (7, 57, 67, 1, some 6), (7, 58, 63, 1, some 6), (7, 61, 87, 3, none), (7, 64, 68, 2, some 6), (7, 65, 88, 5, none), (7, 68, 69, 4, some 6), (7, 69, 89, 5, none), (7, 71, 70, 4, some 6), (7, 72, 90, 3, none), (7, 74, 71, 2, some 6), (7, 75, 5, 1, some 0), (7, 78, 72, 1, some 6), (7, 79, 6, 1, some 0), (7, 83, 78, 1, some 6), (7, 84, 7, 1, some 0), (7, 87, 79, 1, some 6), (7, 88, 91, 3, none), (7, 90, 80, 2, some 6), (7, 91, 92, 4, none), (7, 94, 81, 3, some 6), (7, 95, 93, 4, none), (7, 98, 82, 3, some 6), (7, 99, 94, 3, none), (7, 101, 83, 2, some 6), (7, 102, 12, 1, some 0), (7, 105, 84, 1, some 6), (7, 106, 13, 2, some 0), (7, 109, 85, 2, some 6)]
def pm_thr : List (Nat × Nat × Nat) := [(0, 49, 1), (0, 75, 2), (0, 101, 0)]
/-- method, pc of the call, kind of what was thrown: handler, pc behind its store, the place of the store -/
def pm_hnd : List ((Nat × Nat × Nat) × (Nat × Nat × Nat)) := [((86, 3, 1), (11, 12, 2)), ((87, 4, 0), (12, 13, 3)), ((87, 4, 1), (15, 16, 3)), ((88, 7, 0), (15, 17, 5)), ((88, 7, 2), (19, 21, 5)), ((88, 7, 1), (23, 25, 5)), ((89, 7, 0), (15, 17, 5)), ((89, 7, 1), (19, 21, 5)), ((90, 4, 0), (12, 13, 3)), ((90, 4, 1), (15, 16, 3)), ((91, 4, 0), (12, 13, 3)), ((92, 5, 0), (20, 22, 4)), ((93, 5, 0), (20, 22, 4)), ((94, 4, 0), (19, 20, 3))]
/-! ONE STEP: what must hold ahead of an instruction, if Z must hold behind it. -/
def pm_wt (st : List pm_V) : Nat := (st.map fun v => if pm_is1 v then 1 else 2).sum
def pm_recv (D : List pm_D) (q : Option Nat) (as : List pm_V) : Prop := match q with
  | none => True
  | some ci => ∃ (c : Nat) (r : List pm_V) (fs : List (Nat ⊕ Bool)), as = .inr (.inl c) :: r ∧ D[c]? = some (.inr (ci, fs))
/-- behind a call -/
def pm_back (Z : pm_C → pm_P → Prop) (k pc : Nat) (ls : pm_L) (rest : List pm_V) (Q : pm_P) : pm_P := fun r M =>
  match r with
  | .inl v => Z (k, pc + 3, ls, v.toList ++ rest, M) Q
  | .inr kd => match pm_hnd.lookup (k, pc, kd) with
    | none => Q (.inr kd) M
    | some h => Z (k, h.2.1, ls.set h.2.2 none, [], M) Q
def pm_inv (L : Nat) (Z : pm_C → pm_P → Prop) (stat : Bool) (index k pc : Nat) (ls : pm_L) (st : List pm_V) (M : pm_M) (Q : pm_P) : Prop :=
  ∃ (k' n : Nat) (q : Option Nat) (as rest : List pm_V), (pm_own k, index, k', n, q) ∈ pm_call ∧ q.isNone = stat ∧ st = as.reverse ++ rest ∧ as.length = n ∧ as.all pm_is1 = true ∧ pm_recv (pm_cells L) q as ∧ pm_wt rest ≤ 8 ∧
    Z (k', 0, pm_ent (pm_mL k') as, [], M) (pm_back Z k pc ls rest Q)
def pm_stp (L : Nat) (Z : pm_C → pm_P → Prop) (i : Jvm.ClassFile.Instr) (len k pc : Nat) (ls : pm_L) (st : List pm_V) (M : pm_M) (Q : pm_P) : Prop :=
  match i with
  | .iconst x => -1 ≤ x ∧ x ≤ 5 ∧ Z (k, pc + 1, ls, .inl x :: st, M) Q
  | .bipush x => -128 ≤ x ∧ x ≤ 127 ∧ Z (k, pc + 2, ls, .inl x :: st, M) Q
  | .sipush x => -32768 ≤ x ∧ x ≤ 32767 ∧ Z (k, pc + 3, ls, .inl x :: st, M) Q
  | .lconst x => Z (k, pc + 1, ls, .inr (.inr (x.val : Int)) :: st, M) Q
  | .iload_n n => ∃ x, ls[n.val]? = some (some (.inl x)) ∧ Z (k, pc + 1, ls, .inl x :: st, M) Q
  | .iload n => ∃ x, ls[n]? = some (some (.inl x)) ∧ Z (k, pc + 2, ls, .inl x :: st, M) Q
  | .aload_n n => ∃ x, ls[n.val]? = some (some (.inr (.inl x))) ∧ Z (k, pc + 1, ls, .inr (.inl x) :: st, M) Q
  | .aload n => ∃ x, ls[n]? = some (some (.inr (.inl x))) ∧ Z (k, pc + 2, ls, .inr (.inl x) :: st, M) Q
  | .istore_n n => ∃ x r, st = .inl x :: r ∧ n.val < ls.length ∧ Z (k, pc + 1, ls.set n.val (some (.inl x)), r, M) Q
  | .istore n => ∃ x r, st = .inl x :: r ∧ n < ls.length ∧ Z (k, pc + 2, ls.set n (some (.inl x)), r, M) Q
  | .iinc n d => ∃ x, ls[n]? = some (some (.inl x)) ∧ -128 ≤ d ∧ d ≤ 127 ∧ pm_R (x + d) ∧ Z (k, pc + 3, ls.set n (some (.inl (x + d))), st, M) Q
  | .iadd => ∃ x y r, st = .inl y :: .inl x :: r ∧ pm_R (x + y) ∧ Z (k, pc + 1, ls, .inl (x + y) :: r, M) Q
  | .isub => ∃ x y r, st = .inl y :: .inl x :: r ∧ pm_R (x - y) ∧ Z (k, pc + 1, ls, .inl (x - y) :: r, M) Q
  | .imul => ∃ x y r, st = .inl y :: .inl x :: r ∧ pm_R (x * y) ∧ Z (k, pc + 1, ls, .inl (x * y) :: r, M) Q
  | .iand => ∃ x y r, st = .inl y :: .inl x :: r ∧ (y = 1 ∨ y = 15) ∧ Z (k, pc + 1, ls, .inl (x % (y + 1)) :: r, M) Q
  | .ixor => ∃ x r, st = .inl 1 :: .inl x :: r ∧ Z (k, pc + 1, ls, .inl (pm_op x) :: r, M) Q
  | .ishr => ∃ x r, st = .inl 1 :: .inl x :: r ∧ Z (k, pc + 1, ls, .inl (x / 2) :: r, M) Q
  | .i2l => ∃ x r, st = .inl x :: r ∧ Z (k, pc + 1, ls, .inr (.inr x) :: r, M) Q
  | .lcmp => ∃ x y r, st = .inr (.inr y) :: .inr (.inr x) :: r ∧ Z (k, pc + 1, ls, .inl (if x < y then -1 else if x = y then 0 else 1) :: r, M) Q
  | .getfield index => ∃ (ci j c : Nat) (r : List pm_V) (fs : List (Nat ⊕ Bool)) (f : Nat ⊕ Bool), (pm_own k, index, ci, j) ∈ pm_fld ∧ st = .inr (.inl c) :: r ∧ (pm_cells L)[c]? = some (.inr (ci, fs)) ∧ fs[j]? = some f ∧
      Z (k, pc + 3, ls, (match f with | .inl q => .inr (.inl q) | .inr _ => .inl (M c j)) :: r, M) Q
  | .putfield index => ∃ (ci j c : Nat) (x : Int) (r : List pm_V) (fs : List (Nat ⊕ Bool)) (b : Bool), (pm_own k, index, ci, j) ∈ pm_fld ∧ st = .inl x :: .inr (.inl c) :: r ∧ (pm_cells L)[c]? = some (.inr (ci, fs)) ∧ fs[j]? = some (.inr b) ∧ (b = true → pm_bit x) ∧
      Z (k, pc + 3, ls, r, pm_set M c j x) Q
  | .iaload => ∃ i c r, st = .inl i :: .inr (.inl c) :: r ∧ pm_arr (pm_cells L) c 0 i ∧ Z (k, pc + 1, ls, .inl (M c i) :: r, M) Q
  | .baload => ∃ i c r, st = .inl i :: .inr (.inl c) :: r ∧ pm_arr (pm_cells L) c 1 i ∧ Z (k, pc + 1, ls, .inl (M c i) :: r, M) Q
  | .laload => ∃ i c r, st = .inl i :: .inr (.inl c) :: r ∧ pm_arr (pm_cells L) c 2 i ∧ Z (k, pc + 1, ls, .inr (.inr (M c i)) :: r, M) Q
  | .iastore => ∃ x i c r, st = .inl x :: .inl i :: .inr (.inl c) :: r ∧ pm_arr (pm_cells L) c 0 i ∧ Z (k, pc + 1, ls, r, pm_set M c i x) Q
  | .bastore => ∃ x i c r, st = .inl x :: .inl i :: .inr (.inl c) :: r ∧ pm_arr (pm_cells L) c 1 i ∧ pm_bit x ∧ Z (k, pc + 1, ls, r, pm_set M c i x) Q
  | .lastore => ∃ x i c r, st = .inr (.inr x) :: .inl i :: .inr (.inl c) :: r ∧ pm_arr (pm_cells L) c 2 i ∧ Z (k, pc + 1, ls, r, pm_set M c i x) Q
  | .arraylength => ∃ (c : Nat) (r : List pm_V) (n : Nat), st = .inr (.inl c) :: r ∧ (pm_cells L)[c]? = some (.inl (0, n)) ∧ n ≤ 100000 ∧ Z (k, pc + 1, ls, .inl n :: r, M) Q
  | .dup => ∃ v r, st = v :: r ∧ pm_is1 v = true ∧ Z (k, pc + 1, ls, v :: v :: r, M) Q
  | .dup_x1 => ∃ v w r, st = v :: w :: r ∧ pm_is1 v = true ∧ pm_is1 w = true ∧ Z (k, pc + 1, ls, v :: w :: v :: r, M) Q
  | .pop => ∃ v r, st = v :: r ∧ pm_is1 v = true ∧ Z (k, pc + 1, ls, r, M) Q
  | .ifCond c off => ∃ (x : Int) (r : List pm_V) (t : Nat), st = .inl x :: r ∧ (pc : Int) + off = t ∧ (pm_cmp c x 0 → Z (k, t, ls, r, M) Q) ∧ (¬ pm_cmp c x 0 → Z (k, pc + 3, ls, r, M) Q)
  | .if_icmp c off => ∃ (x y : Int) (r : List pm_V) (t : Nat), st = .inl y :: .inl x :: r ∧ (pc : Int) + off = t ∧ (pm_cmp c x y → Z (k, t, ls, r, M) Q) ∧ (¬ pm_cmp c x y → Z (k, pc + 3, ls, r, M) Q)
  | .goto off => ∃ t : Nat, (pc : Int) + off = t ∧ Z (k, t, ls, st, M) Q
  | .tableswitch d lo hi offs => ∃ (x : Int) (r : List pm_V), st = .inl x :: r ∧ ((x < lo ∨ hi < x) → ∃ t : Nat, (pc : Int) + d = t ∧ Z (k, t, ls, r, M) Q) ∧
      (¬ x < lo → ¬ hi < x → ∃ (off : Int) (t : Nat), offs[(x - lo).toNat]? = some off ∧ (pc : Int) + off = t ∧ Z (k, t, ls, r, M) Q)
  | .invokevirtual index => pm_inv L Z false index k pc ls st M Q
  | .invokestatic index => pm_inv L Z true index k pc ls st M Q
  | .ireturn => ∃ x, st = [.inl x] ∧ (pm_ret k = 1 ∨ pm_ret k = 2 ∧ pm_bit x) ∧ Q (.inl (some (.inl x))) M
  | .return_ => st = [] ∧ pm_ret k = 0 ∧ Q (.inl none) M
  | .new index => ∃ kd, (pm_own k, index, kd) ∈ pm_thr ∧ st = [] ∧ 1 ≤ M 99 0 ∧ Q (.inr kd) (pm_set M 99 0 (M 99 0 - 1))
  | _ => False
/-- how long an instruction is -/
def pm_ln (i : Jvm.ClassFile.Instr) (len : Nat) : Prop := match i with
  | .tableswitch .. => True
  | .bipush _ => len = 2
  | .iload _ => len = 2
  | .aload _ => len = 2
  | .istore _ => len = 2
  | .sipush _ => len = 3
  | .iinc _ _ => len = 3
  | .getfield _ => len = 3
  | .putfield _ => len = 3
  | .ifCond _ _ => len = 3
  | .if_icmp _ _ => len = 3
  | .goto _ => len = 3
  | .invokevirtual _ => len = 3
  | .invokestatic _ => len = 3
  | .new _ => len = 3
  | _ => len = 1
def pm_step (L : Nat) (Z : pm_C → pm_P → Prop) (c : pm_C) (Q : pm_P) : Prop :=
  ∃ i len, Jvm.ClassFile.decode (pm_bytes c.1) c.2.1 = .ok (i, len) ∧ pm_ln i len ∧ pm_stp L Z i len c.1 c.2.1 c.2.2.1 c.2.2.2.1 c.2.2.2.2 Q
def pm_mono (Z : pm_C → pm_P → Prop) : Prop := ∀ (c : pm_C) (Q Q' : pm_P), (∀ r M, Q r M → Q' r M) → Z c Q → Z c Q'
/-- the machine comes from c to an end with Q: the least Z that the steps allow -/
def pm_X (L : Nat) (c : pm_C) (Q : pm_P) : Prop := ∀ Z : pm_C → pm_P → Prop, pm_mono Z → (∀ c Q, pm_step L Z c Q → Z c Q) → Z c Q
theorem pm_back_mono {Y Z : pm_C → pm_P → Prop} (h : ∀ c Q, Y c Q → Z c Q) {k pc : Nat} {ls : pm_L} {rest : List pm_V} {Q : pm_P} (r : pm_A) (M : pm_M) (hb : pm_back Y k pc ls rest Q r M) : pm_back Z k pc ls rest Q r M := by
  unfold pm_back at hb ⊢
  cases r with
  | inl v => exact h _ _ hb
  | inr kd =>
    revert hb
    dsimp only
    cases pm_hnd.lookup (k, pc, kd) with
    | none => exact fun hb => hb
    | some q => exact fun hb => h _ _ hb
theorem pm_inv_mono {L : Nat} {Y Z : pm_C → pm_P → Prop} (h : ∀ c Q, Y c Q → Z c Q) (hz : pm_mono Z) {b : Bool} {index k pc : Nat} {ls : pm_L} {st : List pm_V} {M : pm_M} {Q : pm_P} (hi : pm_inv L Y b index k pc ls st M Q) : pm_inv L Z b index k pc ls st M Q := by
  obtain ⟨k', n, q, as, rest, h1, h2, h3, h4, h5, h6, h7, h8⟩ := hi
  exact ⟨k', n, q, as, rest, h1, h2, h3, h4, h5, h6, h7, hz _ _ _ (fun r M hb => pm_back_mono h r M hb) (h _ _ h8)⟩
theorem pm_stp_mono {L : Nat} {Y Z : pm_C → pm_P → Prop} (h : ∀ c Q, Y c Q → Z c Q) (hz : pm_mono Z) {i : Jvm.ClassFile.Instr} {len k pc : Nat} {ls : pm_L} {st : List pm_V} {M : pm_M} {Q : pm_P} (hi : pm_stp L Y i len k pc ls st M Q) : pm_stp L Z i len k pc ls st M Q := by
  cases i with
  | iconst x => exact ⟨hi.1, hi.2.1, h _ _ hi.2.2⟩
  | bipush x => exact ⟨hi.1, hi.2.1, h _ _ hi.2.2⟩
  | sipush x => exact ⟨hi.1, hi.2.1, h _ _ hi.2.2⟩
  | lconst x => exact h _ _ hi
  | iload_n n => obtain ⟨x, h1, h2⟩ := hi; exact ⟨x, h1, h _ _ h2⟩
  | iload n => obtain ⟨x, h1, h2⟩ := hi; exact ⟨x, h1, h _ _ h2⟩
  | aload_n n => obtain ⟨x, h1, h2⟩ := hi; exact ⟨x, h1, h _ _ h2⟩
  | aload n => obtain ⟨x, h1, h2⟩ := hi; exact ⟨x, h1, h _ _ h2⟩
  | istore_n n => obtain ⟨x, r, h1, h2, h3⟩ := hi; exact ⟨x, r, h1, h2, h _ _ h3⟩
  | istore n => obtain ⟨x, r, h1, h2, h3⟩ := hi; exact ⟨x, r, h1, h2, h _ _ h3⟩
  | iinc n d => obtain ⟨x, h1, h2, h3, h4, h5⟩ := hi; exact ⟨x, h1, h2, h3, h4, h _ _ h5⟩
  | iadd => obtain ⟨x, y, r, h1, h2, h3⟩ := hi; exact ⟨x, y, r, h1, h2, h _ _ h3⟩
  | isub => obtain ⟨x, y, r, h1, h2, h3⟩ := hi; exact ⟨x, y, r, h1, h2, h _ _ h3⟩
  | imul => obtain ⟨x, y, r, h1, h2, h3⟩ := hi; exact ⟨x, y, r, h1, h2, h _ _ h3⟩
  | iand => obtain ⟨x, y, r, h1, h2, h3⟩ := hi; exact ⟨x, y, r, h1, h2, h _ _ h3⟩
  | ixor => obtain ⟨x, r, h1, h2⟩ := hi; exact ⟨x, r, h1, h _ _ h2⟩
  | ishr => obtain ⟨x, r, h1, h2⟩ := hi; exact ⟨x, r, h1, h _ _ h2⟩
  | i2l => obtain ⟨x, r, h1, h2⟩ := hi; exact ⟨x, r, h1, h _ _ h2⟩
  | lcmp => obtain ⟨x, y, r, h1, h2⟩ := hi; exact ⟨x, y, r, h1, h _ _ h2⟩
  | getfield n => obtain ⟨ci, j, c, r, fs, f, h1, h2, h3, h4, h5⟩ := hi; exact ⟨ci, j, c, r, fs, f, h1, h2, h3, h4, h _ _ h5⟩
  | putfield n => obtain ⟨ci, j, c, x, r, fs, b, h1, h2, h3, h4, h5, h6⟩ := hi; exact ⟨ci, j, c, x, r, fs, b, h1, h2, h3, h4, h5, h _ _ h6⟩
  | iaload => obtain ⟨i, c, r, h1, h2, h3⟩ := hi; exact ⟨i, c, r, h1, h2, h _ _ h3⟩
  | baload => obtain ⟨i, c, r, h1, h2, h3⟩ := hi; exact ⟨i, c, r, h1, h2, h _ _ h3⟩
  | laload => obtain ⟨i, c, r, h1, h2, h3⟩ := hi; exact ⟨i, c, r, h1, h2, h _ _ h3⟩
  | iastore => obtain ⟨x, i, c, r, h1, h2, h3⟩ := hi; exact ⟨x, i, c, r, h1, h2, h _ _ h3⟩
  | bastore => obtain ⟨x, i, c, r, h1, h2, h3, h4⟩ := hi; exact ⟨x, i, c, r, h1, h2, h3, h _ _ h4⟩
  | lastore => obtain ⟨x, i, c, r, h1, h2, h3⟩ := hi; exact ⟨x, i, c, r, h1, h2, h _ _ h3⟩
  | arraylength => obtain ⟨c, r, n, h1, h2, h3, h4⟩ := hi; exact ⟨c, r, n, h1, h2, h3, h _ _ h4⟩
  | dup => obtain ⟨v, r, h1, h2, h3⟩ := hi; exact ⟨v, r, h1, h2, h _ _ h3⟩
  | dup_x1 => obtain ⟨v, w, r, h1, h2, h3, h4⟩ := hi; exact ⟨v, w, r, h1, h2, h3, h _ _ h4⟩
  | pop => obtain ⟨v, r, h1, h2, h3⟩ := hi; exact ⟨v, r, h1, h2, h _ _ h3⟩
  | ifCond c off => obtain ⟨x, r, t, h1, h2, h3, h4⟩ := hi; exact ⟨x, r, t, h1, h2, fun z => h _ _ (h3 z), fun z => h _ _ (h4 z)⟩
  | if_icmp c off => obtain ⟨x, y, r, t, h1, h2, h3, h4⟩ := hi; exact ⟨x, y, r, t, h1, h2, fun z => h _ _ (h3 z), fun z => h _ _ (h4 z)⟩
  | goto off => obtain ⟨t, h1, h2⟩ := hi; exact ⟨t, h1, h _ _ h2⟩
  | tableswitch d lo hi offs =>
    obtain ⟨x, r, h1, h2, h3⟩ := hi
    refine ⟨x, r, h1, fun z => ?_, fun z1 z2 => ?_⟩
    · obtain ⟨t, a, b⟩ := h2 z; exact ⟨t, a, h _ _ b⟩
    · obtain ⟨off, t, a, b, c⟩ := h3 z1 z2; exact ⟨off, t, a, b, h _ _ c⟩
  | invokevirtual n => exact pm_inv_mono h hz hi
  | invokestatic n => exact pm_inv_mono h hz hi
  | ireturn => exact hi
  | return_ => exact hi
  | new n => exact hi
  | _ => exact hi.elim
theorem pm_in {L : Nat} {c : pm_C} {Q : pm_P} (h : pm_step L (pm_X L) c Q) : pm_X L c Q := by
  intro Z hz hs
  obtain ⟨i, len, hd, hl, h⟩ := h
  exact hs c Q ⟨i, len, hd, hl, pm_stp_mono (fun c Q hx => hx Z hz hs) hz h⟩
theorem pm_up {L : Nat} {c : pm_C} {Q Q' : pm_P} (h : pm_X L c Q) (hq : ∀ r M, Q r M → Q' r M) : pm_X L c Q' := fun Z hz hs => hz c Q Q' hq (h Z hz hs)
end
section
/-! THE RULES: pm_X at an instruction out of pm_X at the next. -/
section PMR
variable {L k pc nx len : Nat} {ls ls' : pm_L} {st : List pm_V} {M : pm_M} {Q : pm_P}
theorem x_iconst {x : Int} (hd : Jvm.ClassFile.decode (pm_bytes k) pc = .ok (.iconst x, 1)) (hr : -1 ≤ x ∧ x ≤ 5) (hn : pc + 1 = nx) (h : pm_X L (k, nx, ls, .inl x :: st, M) Q) : pm_X L (k, pc, ls, st, M) Q := by
  subst hn; exact pm_in ⟨_, _, hd, rfl, hr.1, hr.2, h⟩
theorem x_bipush {x : Int} (hd : Jvm.ClassFile.decode (pm_bytes k) pc = .ok (.bipush x, 2)) (hr : -128 ≤ x ∧ x ≤ 127) (hn : pc + 2 = nx) (h : pm_X L (k, nx, ls, .inl x :: st, M) Q) : pm_X L (k, pc, ls, st, M) Q := by
  subst hn; exact pm_in ⟨_, _, hd, rfl, hr.1, hr.2, h⟩
theorem x_sipush {x : Int} (hd : Jvm.ClassFile.decode (pm_bytes k) pc = .ok (.sipush x, 3)) (hr : -32768 ≤ x ∧ x ≤ 32767) (hn : pc + 3 = nx) (h : pm_X L (k, nx, ls, .inl x :: st, M) Q) : pm_X L (k, pc, ls, st, M) Q := by
  subst hn; exact pm_in ⟨_, _, hd, rfl, hr.1, hr.2, h⟩
theorem x_lconst {x : Fin 2} {y : Int} (hd : Jvm.ClassFile.decode (pm_bytes k) pc = .ok (.lconst x, 1)) (hr : (x.val : Int) = y) (hn : pc + 1 = nx) (h : pm_X L (k, nx, ls, .inr (.inr y) :: st, M) Q) : pm_X L (k, pc, ls, st, M) Q := by
  subst hn; subst hr; exact pm_in ⟨_, _, hd, rfl, h⟩
theorem x_iload_n {n : Fin 4} {x : Int} (hd : Jvm.ClassFile.decode (pm_bytes k) pc = .ok (.iload_n n, 1)) (hl : ls[n.val]? = some (some (.inl x))) (hn : pc + 1 = nx) (h : pm_X L (k, nx, ls, .inl x :: st, M) Q) : pm_X L (k, pc, ls, st, M) Q := by
  subst hn; exact pm_in ⟨_, _, hd, rfl, x, hl, h⟩
theorem x_iload {n : Nat} {x : Int} (hd : Jvm.ClassFile.decode (pm_bytes k) pc = .ok (.iload n, 2)) (hl : ls[n]? = some (some (.inl x))) (hn : pc + 2 = nx) (h : pm_X L (k, nx, ls, .inl x :: st, M) Q) : pm_X L (k, pc, ls, st, M) Q := by
  subst hn; exact pm_in ⟨_, _, hd, rfl, x, hl, h⟩
theorem x_aload_n {n : Fin 4} {x : Nat} (hd : Jvm.ClassFile.decode (pm_bytes k) pc = .ok (.aload_n n, 1)) (hl : ls[n.val]? = some (some (.inr (.inl x)))) (hn : pc + 1 = nx) (h : pm_X L (k, nx, ls, .inr (.inl x) :: st, M) Q) : pm_X L (k, pc, ls, st, M) Q := by
  subst hn; exact pm_in ⟨_, _, hd, rfl, x, hl, h⟩
theorem x_aload {n : Nat} {x : Nat} (hd : Jvm.ClassFile.decode (pm_bytes k) pc = .ok (.aload n, 2)) (hl : ls[n]? = some (some (.inr (.inl x)))) (hn : pc + 2 = nx) (h : pm_X L (k, nx, ls, .inr (.inl x) :: st, M) Q) : pm_X L (k, pc, ls, st, M) Q := by
  subst hn; exact pm_in ⟨_, _, hd, rfl, x, hl, h⟩
theorem x_istore_n {n : Fin 4} {x : Int} (hd : Jvm.ClassFile.decode (pm_bytes k) pc = .ok (.istore_n n, 1)) (hl : n.val < ls.length) (hs : ls.set n.val (some (.inl x)) = ls') (hn : pc + 1 = nx) (h : pm_X L (k, nx, ls', st, M) Q) : pm_X L (k, pc, ls, .inl x :: st, M) Q := by
  subst hn; subst hs; exact pm_in ⟨_, _, hd, rfl, x, st, rfl, hl, h⟩
theorem x_istore {n : Nat} {x : Int} (hd : Jvm.ClassFile.decode (pm_bytes k) pc = .ok (.istore n, 2)) (hl : n < ls.length) (hs : ls.set n (some (.inl x)) = ls') (hn : pc + 2 = nx) (h : pm_X L (k, nx, ls', st, M) Q) : pm_X L (k, pc, ls, .inl x :: st, M) Q := by
  subst hn; subst hs; exact pm_in ⟨_, _, hd, rfl, x, st, rfl, hl, h⟩
theorem x_iinc {n : Nat} {x d : Int} (hd : Jvm.ClassFile.decode (pm_bytes k) pc = .ok (.iinc n d, 3)) (hl : ls[n]? = some (some (.inl x))) (hr : -128 ≤ d ∧ d ≤ 127) (hs : ls.set n (some (.inl (x + d))) = ls') (hn : pc + 3 = nx) (hq : pm_R (x + d)) (h : pm_X L (k, nx, ls', st, M) Q) : pm_X L (k, pc, ls, st, M) Q := by
  subst hn; subst hs; exact pm_in ⟨_, _, hd, rfl, x, hl, hr.1, hr.2, hq, h⟩
theorem x_iadd {x y : Int} (hd : Jvm.ClassFile.decode (pm_bytes k) pc = .ok (.iadd, 1)) (hn : pc + 1 = nx) (hq : pm_R (x + y)) (h : pm_X L (k, nx, ls, .inl (x + y) :: st, M) Q) : pm_X L (k, pc, ls, .inl y :: .inl x :: st, M) Q := by
  subst hn; exact pm_in ⟨_, _, hd, rfl, x, y, st, rfl, hq, h⟩
theorem x_isub {x y : Int} (hd : Jvm.ClassFile.decode (pm_bytes k) pc = .ok (.isub, 1)) (hn : pc + 1 = nx) (hq : pm_R (x - y)) (h : pm_X L (k, nx, ls, .inl (x - y) :: st, M) Q) : pm_X L (k, pc, ls, .inl y :: .inl x :: st, M) Q := by
  subst hn; exact pm_in ⟨_, _, hd, rfl, x, y, st, rfl, hq, h⟩
theorem x_imul {x y : Int} (hd : Jvm.ClassFile.decode (pm_bytes k) pc = .ok (.imul, 1)) (hn : pc + 1 = nx) (hq : pm_R (x * y)) (h : pm_X L (k, nx, ls, .inl (x * y) :: st, M) Q) : pm_X L (k, pc, ls, .inl y :: .inl x :: st, M) Q := by
  subst hn; exact pm_in ⟨_, _, hd, rfl, x, y, st, rfl, hq, h⟩
theorem x_iand1 {x : Int} (hd : Jvm.ClassFile.decode (pm_bytes k) pc = .ok (.iand, 1)) (hn : pc + 1 = nx) (h : pm_X L (k, nx, ls, .inl (x % 2) :: st, M) Q) : pm_X L (k, pc, ls, .inl 1 :: .inl x :: st, M) Q := by
  subst hn; exact pm_in ⟨_, _, hd, rfl, x, 1, st, rfl, .inl rfl, h⟩
theorem x_iand15 {x : Int} (hd : Jvm.ClassFile.decode (pm_bytes k) pc = .ok (.iand, 1)) (hn : pc + 1 = nx) (h : pm_X L (k, nx, ls, .inl (x % 16) :: st, M) Q) : pm_X L (k, pc, ls, .inl 15 :: .inl x :: st, M) Q := by
  subst hn; exact pm_in ⟨_, _, hd, rfl, x, 15, st, rfl, .inr rfl, h⟩
theorem x_ixor {x : Int} (hd : Jvm.ClassFile.decode (pm_bytes k) pc = .ok (.ixor, 1)) (hn : pc + 1 = nx) (h : pm_X L (k, nx, ls, .inl (pm_op x) :: st, M) Q) : pm_X L (k, pc, ls, .inl 1 :: .inl x :: st, M) Q := by
  subst hn; exact pm_in ⟨_, _, hd, rfl, x, st, rfl, h⟩
theorem x_ishr {x : Int} (hd : Jvm.ClassFile.decode (pm_bytes k) pc = .ok (.ishr, 1)) (hn : pc + 1 = nx) (h : pm_X L (k, nx, ls, .inl (x / 2) :: st, M) Q) : pm_X L (k, pc, ls, .inl 1 :: .inl x :: st, M) Q := by
  subst hn; exact pm_in ⟨_, _, hd, rfl, x, st, rfl, h⟩
theorem x_i2l {x : Int} (hd : Jvm.ClassFile.decode (pm_bytes k) pc = .ok (.i2l, 1)) (hn : pc + 1 = nx) (h : pm_X L (k, nx, ls, .inr (.inr x) :: st, M) Q) : pm_X L (k, pc, ls, .inl x :: st, M) Q := by
  subst hn; exact pm_in ⟨_, _, hd, rfl, x, st, rfl, h⟩
theorem x_lcmp {x y : Int} (hd : Jvm.ClassFile.decode (pm_bytes k) pc = .ok (.lcmp, 1)) (hn : pc + 1 = nx) (h : pm_X L (k, nx, ls, .inl (if x < y then -1 else if x = y then 0 else 1) :: st, M) Q) : pm_X L (k, pc, ls, .inr (.inr y) :: .inr (.inr x) :: st, M) Q := by
  subst hn; exact pm_in ⟨_, _, hd, rfl, x, y, st, rfl, h⟩
theorem x_getr {index ci j c q : Nat} {fs : List (Nat ⊕ Bool)} (hd : Jvm.ClassFile.decode (pm_bytes k) pc = .ok (.getfield index, 3)) (hf : (pm_own k, index, ci, j) ∈ pm_fld) (hc : (pm_cells L)[c]? = some (.inr (ci, fs))) (hj : fs[j]? = some (.inl q)) (hn : pc + 3 = nx)
    (h : pm_X L (k, nx, ls, .inr (.inl q) :: st, M) Q) : pm_X L (k, pc, ls, .inr (.inl c) :: st, M) Q := by
  subst hn; exact pm_in ⟨_, _, hd, rfl, ci, j, c, st, fs, _, hf, rfl, hc, hj, h⟩
theorem x_geti {index ci j c : Nat} {v : Int} {b : Bool} {fs : List (Nat ⊕ Bool)} (hd : Jvm.ClassFile.decode (pm_bytes k) pc = .ok (.getfield index, 3)) (hf : (pm_own k, index, ci, j) ∈ pm_fld) (hc : (pm_cells L)[c]? = some (.inr (ci, fs))) (hj : fs[j]? = some (.inr b)) (hv : M c j = v) (hn : pc + 3 = nx)
    (h : pm_X L (k, nx, ls, .inl v :: st, M) Q) : pm_X L (k, pc, ls, .inr (.inl c) :: st, M) Q := by
  subst hn; subst hv; exact pm_in ⟨_, _, hd, rfl, ci, j, c, st, fs, _, hf, rfl, hc, hj, h⟩
theorem x_puti {index ci j c : Nat} {x : Int} {fs : List (Nat ⊕ Bool)} (hd : Jvm.ClassFile.decode (pm_bytes k) pc = .ok (.putfield index, 3)) (hf : (pm_own k, index, ci, j) ∈ pm_fld) (hc : (pm_cells L)[c]? = some (.inr (ci, fs))) (hj : fs[j]? = some (.inr false)) (hn : pc + 3 = nx)
    (h : pm_X L (k, nx, ls, st, pm_set M c j x) Q) : pm_X L (k, pc, ls, .inl x :: .inr (.inl c) :: st, M) Q := by
  subst hn; exact pm_in ⟨_, _, hd, rfl, ci, j, c, x, st, fs, false, hf, rfl, hc, hj, fun z => by cases z, h⟩
theorem x_putz {index ci j c : Nat} {x : Int} {fs : List (Nat ⊕ Bool)} (hd : Jvm.ClassFile.decode (pm_bytes k) pc = .ok (.putfield index, 3)) (hf : (pm_own k, index, ci, j) ∈ pm_fld) (hc : (pm_cells L)[c]? = some (.inr (ci, fs))) (hj : fs[j]? = some (.inr true)) (hn : pc + 3 = nx)
    (hq : pm_bit x) (h : pm_X L (k, nx, ls, st, pm_set M c j x) Q) : pm_X L (k, pc, ls, .inl x :: .inr (.inl c) :: st, M) Q := by
  subst hn; exact pm_in ⟨_, _, hd, rfl, ci, j, c, x, st, fs, true, hf, rfl, hc, hj, fun _ => hq, h⟩
theorem x_iaload {i v : Int} {c n : Nat} (hd : Jvm.ClassFile.decode (pm_bytes k) pc = .ok (.iaload, 1)) (hc : (pm_cells L)[c]? = some (.inl (0, n))) (hv : M c i = v) (hn : pc + 1 = nx) (hq : 0 ≤ i ∧ i < n) (h : pm_X L (k, nx, ls, .inl v :: st, M) Q) : pm_X L (k, pc, ls, .inl i :: .inr (.inl c) :: st, M) Q := by
  subst hn; subst hv; exact pm_in ⟨_, _, hd, rfl, i, c, st, rfl, ⟨n, hc, hq⟩, h⟩
theorem x_baload {i v : Int} {c n : Nat} (hd : Jvm.ClassFile.decode (pm_bytes k) pc = .ok (.baload, 1)) (hc : (pm_cells L)[c]? = some (.inl (1, n))) (hv : M c i = v) (hn : pc + 1 = nx) (hq : 0 ≤ i ∧ i < n) (h : pm_X L (k, nx, ls, .inl v :: st, M) Q) : pm_X L (k, pc, ls, .inl i :: .inr (.inl c) :: st, M) Q := by
  subst hn; subst hv; exact pm_in ⟨_, _, hd, rfl, i, c, st, rfl, ⟨n, hc, hq⟩, h⟩
theorem x_laload {i v : Int} {c n : Nat} (hd : Jvm.ClassFile.decode (pm_bytes k) pc = .ok (.laload, 1)) (hc : (pm_cells L)[c]? = some (.inl (2, n))) (hv : M c i = v) (hn : pc + 1 = nx) (hq : 0 ≤ i ∧ i < n) (h : pm_X L (k, nx, ls, .inr (.inr v) :: st, M) Q) : pm_X L (k, pc, ls, .inl i :: .inr (.inl c) :: st, M) Q := by
  subst hn; subst hv; exact pm_in ⟨_, _, hd, rfl, i, c, st, rfl, ⟨n, hc, hq⟩, h⟩
theorem x_iastore {x i : Int} {c n : Nat} (hd : Jvm.ClassFile.decode (pm_bytes k) pc = .ok (.iastore, 1)) (hc : (pm_cells L)[c]? = some (.inl (0, n))) (hn : pc + 1 = nx) (hq : 0 ≤ i ∧ i < n) (h : pm_X L (k, nx, ls, st, pm_set M c i x) Q) : pm_X L (k, pc, ls, .inl x :: .inl i :: .inr (.inl c) :: st, M) Q := by
  subst hn; exact pm_in ⟨_, _, hd, rfl, x, i, c, st, rfl, ⟨n, hc, hq⟩, h⟩
theorem x_bastore {x i : Int} {c n : Nat} (hd : Jvm.ClassFile.decode (pm_bytes k) pc = .ok (.bastore, 1)) (hc : (pm_cells L)[c]? = some (.inl (1, n))) (hn : pc + 1 = nx) (hq : (0 ≤ i ∧ i < n) ∧ pm_bit x) (h : pm_X L (k, nx, ls, st, pm_set M c i x) Q) : pm_X L (k, pc, ls, .inl x :: .inl i :: .inr (.inl c) :: st, M) Q := by
  subst hn; exact pm_in ⟨_, _, hd, rfl, x, i, c, st, rfl, ⟨n, hc, hq.1⟩, hq.2, h⟩
theorem x_lastore {x i : Int} {c n : Nat} (hd : Jvm.ClassFile.decode (pm_bytes k) pc = .ok (.lastore, 1)) (hc : (pm_cells L)[c]? = some (.inl (2, n))) (hn : pc + 1 = nx) (hq : 0 ≤ i ∧ i < n) (h : pm_X L (k, nx, ls, st, pm_set M c i x) Q) : pm_X L (k, pc, ls, .inr (.inr x) :: .inl i :: .inr (.inl c) :: st, M) Q := by
  subst hn; exact pm_in ⟨_, _, hd, rfl, x, i, c, st, rfl, ⟨n, hc, hq⟩, h⟩
theorem x_alen {c n : Nat} (hd : Jvm.ClassFile.decode (pm_bytes k) pc = .ok (.arraylength, 1)) (hc : (pm_cells L)[c]? = some (.inl (0, n))) (hn : pc + 1 = nx) (hq : n ≤ 100000) (h : pm_X L (k, nx, ls, .inl n :: st, M) Q) : pm_X L (k, pc, ls, .inr (.inl c) :: st, M) Q := by
  subst hn; exact pm_in ⟨_, _, hd, rfl, c, st, n, rfl, hc, hq, h⟩
theorem x_dup {v : pm_V} (hd : Jvm.ClassFile.decode (pm_bytes k) pc = .ok (.dup, 1)) (hv : pm_is1 v = true) (hn : pc + 1 = nx) (h : pm_X L (k, nx, ls, v :: v :: st, M) Q) : pm_X L (k, pc, ls, v :: st, M) Q := by
  subst hn; exact pm_in ⟨_, _, hd, rfl, v, st, rfl, hv, h⟩
theorem x_dup_x1 {v w : pm_V} (hd : Jvm.ClassFile.decode (pm_bytes k) pc = .ok (.dup_x1, 1)) (hv : pm_is1 v = true) (hw : pm_is1 w = true) (hn : pc + 1 = nx) (h : pm_X L (k, nx, ls, v :: w :: v :: st, M) Q) : pm_X L (k, pc, ls, v :: w :: st, M) Q := by
  subst hn; exact pm_in ⟨_, _, hd, rfl, v, w, st, rfl, hv, hw, h⟩
theorem x_pop {v : pm_V} (hd : Jvm.ClassFile.decode (pm_bytes k) pc = .ok (.pop, 1)) (hv : pm_is1 v = true) (hn : pc + 1 = nx) (h : pm_X L (k, nx, ls, st, M) Q) : pm_X L (k, pc, ls, v :: st, M) Q := by
  subst hn; exact pm_in ⟨_, _, hd, rfl, v, st, rfl, hv, h⟩
theorem x_if {x : Int} {c : Jvm.ClassFile.Cond} {off : Int} {t : Nat} {C : Prop} (hd : Jvm.ClassFile.decode (pm_bytes k) pc = .ok (.ifCond c off, 3)) (ht : (pc : Int) + off = t) (hC : pm_cmp c x 0 ↔ C) (hn : pc + 3 = nx)
    (h : (C → pm_X L (k, t, ls, st, M) Q) ∧ (¬ C → pm_X L (k, nx, ls, st, M) Q)) : pm_X L (k, pc, ls, .inl x :: st, M) Q := by
  subst hn; exact pm_in ⟨_, _, hd, rfl, x, st, t, rfl, ht, fun z => h.1 (hC.mp z), fun z => h.2 (fun y => z (hC.mpr y))⟩
theorem x_icmp {x y : Int} {c : Jvm.ClassFile.Cond} {off : Int} {t : Nat} {C : Prop} (hd : Jvm.ClassFile.decode (pm_bytes k) pc = .ok (.if_icmp c off, 3)) (ht : (pc : Int) + off = t) (hC : pm_cmp c x y ↔ C) (hn : pc + 3 = nx)
    (h : (C → pm_X L (k, t, ls, st, M) Q) ∧ (¬ C → pm_X L (k, nx, ls, st, M) Q)) : pm_X L (k, pc, ls, .inl y :: .inl x :: st, M) Q := by
  subst hn; exact pm_in ⟨_, _, hd, rfl, x, y, st, t, rfl, ht, fun z => h.1 (hC.mp z), fun z => h.2 (fun y => z (hC.mpr y))⟩
theorem x_ifT {x : Int} {c : Jvm.ClassFile.Cond} {off : Int} {t : Nat} (hd : Jvm.ClassFile.decode (pm_bytes k) pc = .ok (.ifCond c off, 3)) (ht : (pc : Int) + off = t) (hC : pm_cmp c x 0) (h : pm_X L (k, t, ls, st, M) Q) : pm_X L (k, pc, ls, .inl x :: st, M) Q :=
  pm_in ⟨_, _, hd, rfl, x, st, t, rfl, ht, fun _ => h, fun z => absurd hC z⟩
theorem x_ifF {x : Int} {c : Jvm.ClassFile.Cond} {off : Int} {t : Nat} (hd : Jvm.ClassFile.decode (pm_bytes k) pc = .ok (.ifCond c off, 3)) (ht : (pc : Int) + off = t) (hC : ¬ pm_cmp c x 0) (hn : pc + 3 = nx) (h : pm_X L (k, nx, ls, st, M) Q) : pm_X L (k, pc, ls, .inl x :: st, M) Q := by
  subst hn; exact pm_in ⟨_, _, hd, rfl, x, st, t, rfl, ht, fun z => absurd z hC, fun _ => h⟩
theorem x_icmpT {x y : Int} {c : Jvm.ClassFile.Cond} {off : Int} {t : Nat} (hd : Jvm.ClassFile.decode (pm_bytes k) pc = .ok (.if_icmp c off, 3)) (ht : (pc : Int) + off = t) (hC : pm_cmp c x y) (h : pm_X L (k, t, ls, st, M) Q) : pm_X L (k, pc, ls, .inl y :: .inl x :: st, M) Q :=
  pm_in ⟨_, _, hd, rfl, x, y, st, t, rfl, ht, fun _ => h, fun z => absurd hC z⟩
theorem x_icmpF {x y : Int} {c : Jvm.ClassFile.Cond} {off : Int} {t : Nat} (hd : Jvm.ClassFile.decode (pm_bytes k) pc = .ok (.if_icmp c off, 3)) (ht : (pc : Int) + off = t) (hC : ¬ pm_cmp c x y) (hn : pc + 3 = nx) (h : pm_X L (k, nx, ls, st, M) Q) : pm_X L (k, pc, ls, .inl y :: .inl x :: st, M) Q := by
  subst hn; exact pm_in ⟨_, _, hd, rfl, x, y, st, t, rfl, ht, fun z => absurd z hC, fun _ => h⟩
theorem x_goto {off : Int} {t : Nat} (hd : Jvm.ClassFile.decode (pm_bytes k) pc = .ok (.goto off, 3)) (ht : (pc : Int) + off = t) (h : pm_X L (k, t, ls, st, M) Q) : pm_X L (k, pc, ls, st, M) Q :=
  pm_in ⟨_, _, hd, rfl, t, ht, h⟩
theorem x_swO {x d lo hi : Int} {offs : Array Int} {t : Nat} (hd : Jvm.ClassFile.decode (pm_bytes k) pc = .ok (.tableswitch d lo hi offs, len)) (ht : (pc : Int) + d = t) (hx : x < lo ∨ hi < x) (h : pm_X L (k, t, ls, st, M) Q) : pm_X L (k, pc, ls, .inl x :: st, M) Q :=
  pm_in ⟨_, _, hd, trivial, x, st, rfl, fun _ => ⟨t, ht, h⟩, fun z1 z2 => absurd hx (fun z => z.elim z1 z2)⟩
theorem x_swV {x v d lo hi off : Int} {offs : Array Int} {t : Nat} (hd : Jvm.ClassFile.decode (pm_bytes k) pc = .ok (.tableswitch d lo hi offs, len)) (hx : x = v) (hb : ¬ v < lo ∧ ¬ hi < v) (ho : offs[(v - lo).toNat]? = some off) (ht : (pc : Int) + off = t) (h : pm_X L (k, t, ls, st, M) Q) : pm_X L (k, pc, ls, .inl x :: st, M) Q := by
  subst hx; exact pm_in ⟨_, _, hd, trivial, x, st, rfl, fun z => absurd z (fun z => z.elim hb.1 hb.2), fun _ _ => ⟨off, t, ho, ht, h⟩⟩
theorem x_swI {x d lo hi off : Int} {offs : Array Int} {t : Nat} (hd : Jvm.ClassFile.decode (pm_bytes k) pc = .ok (.tableswitch d lo hi offs, len)) (hx : ¬ x < lo ∧ ¬ hi < x) (ho : offs[(x - lo).toNat]? = some off) (ht : (pc : Int) + off = t) (h : pm_X L (k, t, ls, st, M) Q) : pm_X L (k, pc, ls, .inl x :: st, M) Q :=
  pm_in ⟨_, _, hd, trivial, x, st, rfl, fun z => absurd z (fun z => z.elim hx.1 hx.2), fun _ _ => ⟨off, t, ho, ht, h⟩⟩
theorem x_callv {index k' n ci c : Nat} {as rest : List pm_V} {fs : List (Nat ⊕ Bool)} (hd : Jvm.ClassFile.decode (pm_bytes k) pc = .ok (.invokevirtual index, 3)) (hc : (pm_own k, index, k', n, some ci) ∈ pm_call) (hst : st = (.inr (.inl c) :: as).reverse ++ rest) (hl : as.length + 1 = n) (ha : as.all pm_is1 = true) (hr : (pm_cells L)[c]? = some (.inr (ci, fs))) (hw : pm_wt rest ≤ 8) {mL : Nat} (hm : pm_mL k' = mL) (he : pm_ent mL (.inr (.inl c) :: as) = ls')
    (h : pm_X L (k', 0, ls', [], M) (pm_back (pm_X L) k pc ls rest Q)) : pm_X L (k, pc, ls, st, M) Q := by
  subst hm; subst he; exact pm_in ⟨_, _, hd, rfl, k', n, some ci, .inr (.inl c) :: as, rest, hc, rfl, hst, hl, by rw [List.all_cons, ha]; rfl, ⟨c, as, fs, rfl, hr⟩, hw, h⟩
theorem x_calls {index k' n : Nat} {as rest : List pm_V} (hd : Jvm.ClassFile.decode (pm_bytes k) pc = .ok (.invokestatic index, 3)) (hc : (pm_own k, index, k', n, none) ∈ pm_call) (hst : st = as.reverse ++ rest) (hl : as.length = n) (ha : as.all pm_is1 = true) (hw : pm_wt rest ≤ 8) {mL : Nat} (hm : pm_mL k' = mL) (he : pm_ent mL as = ls')
    (h : pm_X L (k', 0, ls', [], M) (pm_back (pm_X L) k pc ls rest Q)) : pm_X L (k, pc, ls, st, M) Q := by
  subst hm; subst he; exact pm_in ⟨_, _, hd, rfl, k', n, none, as, rest, hc, rfl, hst, hl, ha, trivial, hw, h⟩
/-- a call whose contract is known -/
theorem x_backv {k' : Nat} {l0 : pm_L} {rest : List pm_V} {P : pm_P} (h : pm_X L (k', 0, l0, [], M) P) (hk : ∀ (r : pm_A) (M' : pm_M), P r M' → pm_back (pm_X L) k pc ls rest Q r M') : pm_X L (k', 0, l0, [], M) (pm_back (pm_X L) k pc ls rest Q) := pm_up h hk
theorem x_bki {x : Int} {rest : List pm_V} (hn : pc + 3 = nx) (h : pm_X L (k, nx, ls, .inl x :: rest, M) Q) : pm_back (pm_X L) k pc ls rest Q (.inl (some (.inl x))) M := by
  subst hn; exact h
theorem x_bkv {rest : List pm_V} (hn : pc + 3 = nx) (h : pm_X L (k, nx, ls, rest, M) Q) : pm_back (pm_X L) k pc ls rest Q (.inl none) M := by
  subst hn; exact h
theorem x_bkt {kd : Nat} {rest : List pm_V} (hh : pm_hnd.lookup (k, pc, kd) = none) (h : Q (.inr kd) M) : pm_back (pm_X L) k pc ls rest Q (.inr kd) M := by
  unfold pm_back; rw [hh]; exact h
theorem x_bkc {kd h0 i : Nat} {rest : List pm_V} (hh : pm_hnd.lookup (k, pc, kd) = some (h0, nx, i)) (hs : ls.set i none = ls') (h : pm_X L (k, nx, ls', [], M) Q) : pm_back (pm_X L) k pc ls rest Q (.inr kd) M := by
  subst hs; unfold pm_back; rw [hh]; exact h
theorem pm_get_c {a c : Nat} {b j x v : Int} (hc : ¬ a = c) (h : M a b = v) : pm_set M c j x a b = v := by
  unfold pm_set; rw [if_neg (fun z => hc z.1)]; exact h
theorem pm_get_j {a c : Nat} {b j x v : Int} (hj : ¬ b = j) (h : M a b = v) : pm_set M c j x a b = v := by
  unfold pm_set; rw [if_neg (fun z => hj z.2)]; exact h
theorem pm_get_e {c : Nat} {j x : Int} : pm_set M c j x c j = x := by
  unfold pm_set; rw [if_pos ⟨rfl, rfl⟩]
theorem x_ireti {x : Int} (hd : Jvm.ClassFile.decode (pm_bytes k) pc = .ok (.ireturn, 1)) (hr : pm_ret k = 1) (h : Q (.inl (some (.inl x))) M) : pm_X L (k, pc, ls, [.inl x], M) Q :=
  pm_in ⟨_, _, hd, rfl, x, rfl, .inl hr, h⟩
theorem x_iretz {x : Int} (hd : Jvm.ClassFile.decode (pm_bytes k) pc = .ok (.ireturn, 1)) (hr : pm_ret k = 2) (hq : pm_bit x) (h : Q (.inl (some (.inl x))) M) : pm_X L (k, pc, ls, [.inl x], M) Q :=
  pm_in ⟨_, _, hd, rfl, x, rfl, .inr ⟨hr, hq⟩, h⟩
theorem x_ret (hd : Jvm.ClassFile.decode (pm_bytes k) pc = .ok (.return_, 1)) (hr : pm_ret k = 0) (h : Q (.inl none) M) : pm_X L (k, pc, ls, [], M) Q :=
  pm_in ⟨_, _, hd, rfl, rfl, hr, h⟩
theorem x_throw {index kd : Nat} (hd : Jvm.ClassFile.decode (pm_bytes k) pc = .ok (.new index, 3)) (hc : (pm_own k, index, kd) ∈ pm_thr) (hq : 1 ≤ M 99 0) (h : Q (.inr kd) (pm_set M 99 0 (M 99 0 - 1))) : pm_X L (k, pc, ls, [], M) Q :=
  pm_in ⟨_, _, hd, rfl, kd, hc, rfl, hq, h⟩
end PMR
end
section
/-! fetch rows of the methods 0 to 19, laid by wip/whole/gen/fetch.py -/
theorem f0_12 : (0, 12, 0, 0) ∈ pm_fld := by decide
theorem f0_19 : (0, 19, 0, 1) ∈ pm_fld := by decide
theorem f0_28 : (0, 28, 0, 2) ∈ pm_fld := by decide
theorem f0_37 : (0, 37, 0, 3) ∈ pm_fld := by decide
theorem f0_41 : (0, 41, 0, 4) ∈ pm_fld := by decide
theorem f0_45 : (0, 45, 1, 7) ∈ pm_fld := by decide
theorem f0_83 : (0, 83, 0, 5) ∈ pm_fld := by decide
theorem f0_112 : (0, 112, 1, 5) ∈ pm_fld := by decide
theorem f0_115 : (0, 115, 1, 3) ∈ pm_fld := by decide
theorem f0_123 : (0, 123, 0, 6) ∈ pm_fld := by decide
theorem f0_126 : (0, 126, 1, 6) ∈ pm_fld := by decide
theorem f1_9 : (1, 9, 1, 0) ∈ pm_fld := by decide
theorem f1_15 : (1, 15, 1, 1) ∈ pm_fld := by decide
theorem f1_18 : (1, 18, 1, 2) ∈ pm_fld := by decide
theorem f1_21 : (1, 21, 1, 3) ∈ pm_fld := by decide
theorem f1_25 : (1, 25, 1, 4) ∈ pm_fld := by decide
theorem f1_28 : (1, 28, 1, 5) ∈ pm_fld := by decide
theorem f1_31 : (1, 31, 1, 6) ∈ pm_fld := by decide
theorem f1_35 : (1, 35, 1, 7) ∈ pm_fld := by decide
theorem f2_10 : (2, 10, 2, 0) ∈ pm_fld := by decide
theorem f2_16 : (2, 16, 2, 1) ∈ pm_fld := by decide
theorem f2_19 : (2, 19, 2, 2) ∈ pm_fld := by decide
theorem f2_23 : (2, 23, 2, 3) ∈ pm_fld := by decide
theorem f3_9 : (3, 9, 3, 1) ∈ pm_fld := by decide
theorem f3_15 : (3, 15, 3, 0) ∈ pm_fld := by decide
theorem f3_19 : (3, 19, 2, 2) ∈ pm_fld := by decide
theorem f3_25 : (3, 25, 3, 3) ∈ pm_fld := by decide
theorem f3_28 : (3, 28, 3, 4) ∈ pm_fld := by decide
theorem f3_40 : (3, 40, 3, 2) ∈ pm_fld := by decide
theorem f3_43 : (3, 43, 2, 1) ∈ pm_fld := by decide
theorem f3_46 : (3, 46, 2, 0) ∈ pm_fld := by decide
theorem f4_12 : (4, 12, 4, 3) ∈ pm_fld := by decide
theorem f4_18 : (4, 18, 4, 4) ∈ pm_fld := by decide
theorem f4_22 : (4, 22, 4, 5) ∈ pm_fld := by decide
theorem f4_25 : (4, 25, 4, 6) ∈ pm_fld := by decide
theorem f4_29 : (4, 29, 4, 7) ∈ pm_fld := by decide
theorem f4_32 : (4, 32, 4, 0) ∈ pm_fld := by decide
theorem f4_36 : (4, 36, 4, 1) ∈ pm_fld := by decide
theorem f4_40 : (4, 40, 4, 2) ∈ pm_fld := by decide
theorem f4_44 : (4, 44, 5, 0) ∈ pm_fld := by decide
theorem f4_73 : (4, 73, 4, 9) ∈ pm_fld := by decide
theorem f4_77 : (4, 77, 1, 6) ∈ pm_fld := by decide
theorem f4_85 : (4, 85, 2, 2) ∈ pm_fld := by decide
theorem f4_88 : (4, 88, 2, 0) ∈ pm_fld := by decide
theorem f4_91 : (4, 91, 2, 1) ∈ pm_fld := by decide
theorem f4_111 : (4, 111, 1, 7) ∈ pm_fld := by decide
theorem f4_114 : (4, 114, 1, 5) ∈ pm_fld := by decide
theorem f4_120 : (4, 120, 5, 4) ∈ pm_fld := by decide
theorem f4_123 : (4, 123, 5, 2) ∈ pm_fld := by decide
theorem f4_145 : (4, 145, 5, 1) ∈ pm_fld := by decide
theorem f4_157 : (4, 157, 4, 8) ∈ pm_fld := by decide
theorem f5_9 : (5, 9, 5, 0) ∈ pm_fld := by decide
theorem f5_15 : (5, 15, 5, 1) ∈ pm_fld := by decide
theorem f5_19 : (5, 19, 5, 2) ∈ pm_fld := by decide
theorem f5_22 : (5, 22, 5, 3) ∈ pm_fld := by decide
theorem f5_29 : (5, 29, 5, 5) ∈ pm_fld := by decide
theorem f5_37 : (5, 37, 5, 4) ∈ pm_fld := by decide
theorem f6_7 : (6, 7, 6, 0) ∈ pm_fld := by decide
theorem f6_13 : (6, 13, 6, 1) ∈ pm_fld := by decide
theorem f6_16 : (6, 16, 6, 2) ∈ pm_fld := by decide
theorem f6_19 : (6, 19, 6, 3) ∈ pm_fld := by decide
theorem f6_22 : (6, 22, 6, 4) ∈ pm_fld := by decide
theorem f6_26 : (6, 26, 6, 5) ∈ pm_fld := by decide
theorem f6_29 : (6, 29, 6, 6) ∈ pm_fld := by decide
theorem f6_32 : (6, 32, 6, 7) ∈ pm_fld := by decide
theorem f6_35 : (6, 35, 6, 8) ∈ pm_fld := by decide
theorem f6_38 : (6, 38, 6, 9) ∈ pm_fld := by decide
theorem f6_42 : (6, 42, 6, 10) ∈ pm_fld := by decide
theorem f6_45 : (6, 45, 6, 11) ∈ pm_fld := by decide
theorem f6_48 : (6, 48, 6, 12) ∈ pm_fld := by decide
theorem k0_56 : (0, 56, 18, 1, (some 0 : Option Nat)) ∈ pm_call := by decide
theorem k0_59 : (0, 59, 24, 1, (some 1 : Option Nat)) ∈ pm_call := by decide
theorem k0_63 : (0, 63, 17, 2, (some 0 : Option Nat)) ∈ pm_call := by decide
theorem k0_67 : (0, 67, 14, 1, (none : Option Nat)) ∈ pm_call := by decide
theorem k0_71 : (0, 71, 25, 4, (some 1 : Option Nat)) ∈ pm_call := by decide
theorem k0_80 : (0, 80, 15, 1, (none : Option Nat)) ∈ pm_call := by decide
theorem k0_88 : (0, 88, 19, 2, (some 0 : Option Nat)) ∈ pm_call := by decide
theorem k0_91 : (0, 91, 21, 1, (some 0 : Option Nat)) ∈ pm_call := by decide
theorem k0_95 : (0, 95, 22, 1, (some 0 : Option Nat)) ∈ pm_call := by decide
theorem k0_98 : (0, 98, 23, 2, (some 0 : Option Nat)) ∈ pm_call := by decide
theorem k0_106 : (0, 106, 20, 3, (some 0 : Option Nat)) ∈ pm_call := by decide
theorem k0_119 : (0, 119, 26, 2, (some 1 : Option Nat)) ∈ pm_call := by decide
theorem k0_133 : (0, 133, 32, 1, (some 2 : Option Nat)) ∈ pm_call := by decide
theorem k0_136 : (0, 136, 28, 1, (some 1 : Option Nat)) ∈ pm_call := by decide
theorem k0_139 : (0, 139, 33, 4, (some 2 : Option Nat)) ∈ pm_call := by decide
theorem k0_143 : (0, 143, 29, 2, (some 1 : Option Nat)) ∈ pm_call := by decide
theorem k0_146 : (0, 146, 30, 2, (some 1 : Option Nat)) ∈ pm_call := by decide
theorem k0_149 : (0, 149, 37, 1, (some 3 : Option Nat)) ∈ pm_call := by decide
theorem k0_152 : (0, 152, 43, 1, (some 4 : Option Nat)) ∈ pm_call := by decide
theorem k0_155 : (0, 155, 38, 1, (some 3 : Option Nat)) ∈ pm_call := by decide
theorem k0_158 : (0, 158, 42, 2, (some 4 : Option Nat)) ∈ pm_call := by decide
theorem k1_38 : (1, 38, 25, 4, (some 1 : Option Nat)) ∈ pm_call := by decide
theorem k1_42 : (1, 42, 27, 2, (some 1 : Option Nat)) ∈ pm_call := by decide
theorem k1_46 : (1, 46, 16, 1, (none : Option Nat)) ∈ pm_call := by decide
theorem k1_50 : (1, 50, 29, 2, (some 1 : Option Nat)) ∈ pm_call := by decide
theorem k1_54 : (1, 54, 31, 3, (some 1 : Option Nat)) ∈ pm_call := by decide
theorem k1_58 : (1, 58, 14, 1, (none : Option Nat)) ∈ pm_call := by decide
theorem k1_61 : (1, 61, 15, 1, (none : Option Nat)) ∈ pm_call := by decide
theorem k1_64 : (1, 64, 33, 4, (some 2 : Option Nat)) ∈ pm_call := by decide
theorem k2_26 : (2, 26, 15, 1, (none : Option Nat)) ∈ pm_call := by decide
theorem k2_30 : (2, 30, 34, 2, (some 2 : Option Nat)) ∈ pm_call := by decide
theorem k2_34 : (2, 34, 35, 1, (some 2 : Option Nat)) ∈ pm_call := by decide
theorem k3_32 : (3, 32, 40, 4, (some 3 : Option Nat)) ∈ pm_call := by decide
theorem k3_36 : (3, 36, 36, 2, (some 2 : Option Nat)) ∈ pm_call := by decide
theorem k3_49 : (3, 49, 41, 2, (some 3 : Option Nat)) ∈ pm_call := by decide
theorem k3_52 : (3, 52, 15, 1, (none : Option Nat)) ∈ pm_call := by decide
theorem k4_47 : (4, 47, 14, 1, (none : Option Nat)) ∈ pm_call := by decide
theorem k4_51 : (4, 51, 45, 1, (some 4 : Option Nat)) ∈ pm_call := by decide
theorem k4_55 : (4, 55, 46, 1, (some 4 : Option Nat)) ∈ pm_call := by decide
theorem k4_58 : (4, 58, 53, 2, (some 4 : Option Nat)) ∈ pm_call := by decide
theorem k4_61 : (4, 61, 36, 2, (some 2 : Option Nat)) ∈ pm_call := by decide
theorem k4_66 : (4, 66, 56, 2, (some 4 : Option Nat)) ∈ pm_call := by decide
theorem k4_70 : (4, 70, 57, 1, (some 5 : Option Nat)) ∈ pm_call := by decide
theorem k4_82 : (4, 82, 44, 1, (some 4 : Option Nat)) ∈ pm_call := by decide
theorem k4_94 : (4, 94, 52, 2, (some 4 : Option Nat)) ∈ pm_call := by decide
theorem k4_97 : (4, 97, 15, 1, (none : Option Nat)) ∈ pm_call := by decide
theorem k4_100 : (4, 100, 58, 2, (some 5 : Option Nat)) ∈ pm_call := by decide
theorem k4_104 : (4, 104, 60, 3, (some 5 : Option Nat)) ∈ pm_call := by decide
theorem k4_108 : (4, 108, 47, 1, (some 4 : Option Nat)) ∈ pm_call := by decide
theorem k4_117 : (4, 117, 59, 2, (some 5 : Option Nat)) ∈ pm_call := by decide
theorem k4_126 : (4, 126, 48, 2, (some 4 : Option Nat)) ∈ pm_call := by decide
theorem k4_129 : (4, 129, 49, 2, (some 4 : Option Nat)) ∈ pm_call := by decide
theorem k4_132 : (4, 132, 50, 3, (some 4 : Option Nat)) ∈ pm_call := by decide
theorem k4_135 : (4, 135, 51, 4, (some 4 : Option Nat)) ∈ pm_call := by decide
theorem k4_139 : (4, 139, 54, 2, (some 4 : Option Nat)) ∈ pm_call := by decide
theorem k4_142 : (4, 142, 16, 1, (none : Option Nat)) ∈ pm_call := by decide
theorem k4_148 : (4, 148, 34, 2, (some 2 : Option Nat)) ∈ pm_call := by decide
theorem k4_151 : (4, 151, 35, 1, (some 2 : Option Nat)) ∈ pm_call := by decide
theorem k4_154 : (4, 154, 55, 2, (some 4 : Option Nat)) ∈ pm_call := by decide
theorem k4_160 : (4, 160, 39, 4, (some 3 : Option Nat)) ∈ pm_call := by decide
theorem k4_166 : (4, 166, 61, 2, (some 5 : Option Nat)) ∈ pm_call := by decide
theorem k5_25 : (5, 25, 62, 2, (some 5 : Option Nat)) ∈ pm_call := by decide
theorem k5_33 : (5, 33, 15, 1, (none : Option Nat)) ∈ pm_call := by decide
theorem k5_40 : (5, 40, 60, 3, (some 5 : Option Nat)) ∈ pm_call := by decide
theorem k6_51 : (6, 51, 64, 3, (some 6 : Option Nat)) ∈ pm_call := by decide
theorem k6_55 : (6, 55, 66, 5, (some 6 : Option Nat)) ∈ pm_call := by decide
theorem k6_59 : (6, 59, 65, 2, (some 6 : Option Nat)) ∈ pm_call := by decide
theorem k6_63 : (6, 63, 75, 1, (some 6 : Option Nat)) ∈ pm_call := by decide
theorem k6_66 : (6, 66, 73, 1, (some 6 : Option Nat)) ∈ pm_call := by decide
theorem k6_69 : (6, 69, 74, 1, (some 6 : Option Nat)) ∈ pm_call := by decide
theorem k6_73 : (6, 73, 76, 1, (some 6 : Option Nat)) ∈ pm_call := by decide
theorem k6_76 : (6, 76, 77, 3, (some 6 : Option Nat)) ∈ pm_call := by decide
theorem k7_7 : (7, 7, 0, 1, (some 0 : Option Nat)) ∈ pm_call := by decide
theorem k7_15 : (7, 15, 1, 2, (some 0 : Option Nat)) ∈ pm_call := by decide
theorem k7_21 : (7, 21, 2, 4, (some 0 : Option Nat)) ∈ pm_call := by decide
theorem k7_27 : (7, 27, 3, 4, (some 0 : Option Nat)) ∈ pm_call := by decide
theorem k7_30 : (7, 30, 4, 2, (some 0 : Option Nat)) ∈ pm_call := by decide
theorem k7_33 : (7, 33, 8, 2, (some 0 : Option Nat)) ∈ pm_call := by decide
theorem k7_36 : (7, 36, 9, 3, (some 0 : Option Nat)) ∈ pm_call := by decide
theorem k7_40 : (7, 40, 10, 3, (some 0 : Option Nat)) ∈ pm_call := by decide
theorem k7_44 : (7, 44, 11, 2, (some 0 : Option Nat)) ∈ pm_call := by decide
theorem k7_52 : (7, 52, 86, 2, (none : Option Nat)) ∈ pm_call := by decide
theorem k7_57 : (7, 57, 67, 1, (some 6 : Option Nat)) ∈ pm_call := by decide
theorem k7_58 : (7, 58, 63, 1, (some 6 : Option Nat)) ∈ pm_call := by decide
theorem k7_61 : (7, 61, 87, 3, (none : Option Nat)) ∈ pm_call := by decide
theorem k7_64 : (7, 64, 68, 2, (some 6 : Option Nat)) ∈ pm_call := by decide
theorem k7_65 : (7, 65, 88, 5, (none : Option Nat)) ∈ pm_call := by decide
theorem k7_68 : (7, 68, 69, 4, (some 6 : Option Nat)) ∈ pm_call := by decide
theorem k7_69 : (7, 69, 89, 5, (none : Option Nat)) ∈ pm_call := by decide
theorem k7_71 : (7, 71, 70, 4, (some 6 : Option Nat)) ∈ pm_call := by decide
theorem k7_72 : (7, 72, 90, 3, (none : Option Nat)) ∈ pm_call := by decide
theorem k7_74 : (7, 74, 71, 2, (some 6 : Option Nat)) ∈ pm_call := by decide
theorem k7_75 : (7, 75, 5, 1, (some 0 : Option Nat)) ∈ pm_call := by decide
theorem k7_78 : (7, 78, 72, 1, (some 6 : Option Nat)) ∈ pm_call := by decide
theorem k7_79 : (7, 79, 6, 1, (some 0 : Option Nat)) ∈ pm_call := by decide
theorem k7_83 : (7, 83, 78, 1, (some 6 : Option Nat)) ∈ pm_call := by decide
theorem k7_84 : (7, 84, 7, 1, (some 0 : Option Nat)) ∈ pm_call := by decide
theorem k7_87 : (7, 87, 79, 1, (some 6 : Option Nat)) ∈ pm_call := by decide
theorem k7_88 : (7, 88, 91, 3, (none : Option Nat)) ∈ pm_call := by decide
theorem k7_90 : (7, 90, 80, 2, (some 6 : Option Nat)) ∈ pm_call := by decide
theorem k7_91 : (7, 91, 92, 4, (none : Option Nat)) ∈ pm_call := by decide
theorem k7_94 : (7, 94, 81, 3, (some 6 : Option Nat)) ∈ pm_call := by decide
theorem k7_95 : (7, 95, 93, 4, (none : Option Nat)) ∈ pm_call := by decide
theorem k7_98 : (7, 98, 82, 3, (some 6 : Option Nat)) ∈ pm_call := by decide
theorem k7_99 : (7, 99, 94, 3, (none : Option Nat)) ∈ pm_call := by decide
theorem k7_101 : (7, 101, 83, 2, (some 6 : Option Nat)) ∈ pm_call := by decide
theorem k7_102 : (7, 102, 12, 1, (some 0 : Option Nat)) ∈ pm_call := by decide
theorem k7_105 : (7, 105, 84, 1, (some 6 : Option Nat)) ∈ pm_call := by decide
theorem k7_106 : (7, 106, 13, 2, (some 0 : Option Nat)) ∈ pm_call := by decide
theorem k7_109 : (7, 109, 85, 2, (some 6 : Option Nat)) ∈ pm_call := by decide
theorem g_0 {L : Nat} : (pm_cells L)[0]? = some (.inr (0, [.inl 1, .inl 2, .inl 3, .inl 4, .inl 6, .inr false, .inr false])) := rfl
theorem g_1 {L : Nat} : (pm_cells L)[1]? = some (.inr (1, [.inl 7, .inl 8, .inl 9, .inl 10, .inl 11, .inl 12, .inr false, .inr false])) := rfl
theorem g_2 {L : Nat} : (pm_cells L)[2]? = some (.inr (2, [.inl 13, .inl 14, .inr false, .inr false])) := rfl
theorem g_3 {L : Nat} : (pm_cells L)[3]? = some (.inr (3, [.inl 2, .inl 15, .inr false, .inr false, .inr true])) := rfl
theorem g_4 {L : Nat} : (pm_cells L)[4]? = some (.inr (4, [.inl 1, .inl 2, .inl 3, .inl 5, .inl 16, .inl 17, .inl 18, .inl 19, .inr false, .inr false])) := rfl
theorem g_5 {L : Nat} : (pm_cells L)[5]? = some (.inr (5, [.inl 20, .inl 21, .inl 22, .inl 23, .inr false, .inr false])) := rfl
theorem g_6 {L : Nat} : (pm_cells L)[6]? = some (.inl (0, 20)) := rfl
theorem g_7 {L : Nat} : (pm_cells L)[7]? = some (.inl (0, 2000)) := rfl
theorem g_8 {L : Nat} : (pm_cells L)[8]? = some (.inl (0, 2000)) := rfl
theorem g_9 {L : Nat} : (pm_cells L)[9]? = some (.inl (0, 2000)) := rfl
theorem g_10 {L : Nat} : (pm_cells L)[10]? = some (.inl (1, 2000)) := rfl
theorem g_11 {L : Nat} : (pm_cells L)[11]? = some (.inl (1, 2000)) := rfl
theorem g_12 {L : Nat} : (pm_cells L)[12]? = some (.inl (0, 12)) := rfl
theorem g_13 {L : Nat} : (pm_cells L)[13]? = some (.inl (0, 85212)) := rfl
theorem g_14 {L : Nat} : (pm_cells L)[14]? = some (.inl (0, 16117)) := rfl
theorem g_15 {L : Nat} : (pm_cells L)[15]? = some (.inl (0, 4000)) := rfl
theorem g_16 {L : Nat} : (pm_cells L)[16]? = some (.inl (0, 4000)) := rfl
theorem g_17 {L : Nat} : (pm_cells L)[17]? = some (.inl (0, 32232)) := rfl
theorem g_18 {L : Nat} : (pm_cells L)[18]? = some (.inl (1, 2000)) := rfl
theorem g_19 {L : Nat} : (pm_cells L)[19]? = some (.inl (0, 2001)) := rfl
theorem g_20 {L : Nat} : (pm_cells L)[20]? = some (.inl (1, 4000)) := rfl
theorem g_21 {L : Nat} : (pm_cells L)[21]? = some (.inl (0, 4000)) := rfl
theorem g_22 {L : Nat} : (pm_cells L)[22]? = some (.inl (0, 2000)) := rfl
theorem g_23 {L : Nat} : (pm_cells L)[23]? = some (.inl (0, 12)) := rfl
theorem g_24 {L : Nat} : (pm_cells L)[24]? = some (.inr (6, [.inr false, .inr false, .inr false, .inr false, .inl 25, .inl 26, .inl 27, .inl 28, .inl 29, .inl 30, .inl 31, .inl 32, .inl 33])) := rfl
theorem g_25 {L : Nat} : (pm_cells L)[25]? = some (.inl (0, 2000)) := rfl
theorem g_26 {L : Nat} : (pm_cells L)[26]? = some (.inl (0, 2000)) := rfl
theorem g_27 {L : Nat} : (pm_cells L)[27]? = some (.inl (0, 2000)) := rfl
theorem g_28 {L : Nat} : (pm_cells L)[28]? = some (.inl (0, 2000)) := rfl
theorem g_29 {L : Nat} : (pm_cells L)[29]? = some (.inl (0, 20)) := rfl
theorem g_30 {L : Nat} : (pm_cells L)[30]? = some (.inl (1, 12)) := rfl
theorem g_31 {L : Nat} : (pm_cells L)[31]? = some (.inl (1, 12)) := rfl
theorem g_32 {L : Nat} : (pm_cells L)[32]? = some (.inl (1, 2000)) := rfl
theorem g_33 {L : Nat} : (pm_cells L)[33]? = some (.inl (0, 20)) := rfl
theorem g_34 {L : Nat} : (pm_cells L)[34]? = some (.inl (2, 1)) := rfl
theorem g_35 {L : Nat} : (pm_cells L)[35]? = some (.inl (0, L)) := rfl
theorem f_0_12 : (pm_own 0, 12, 0, 0) ∈ pm_fld := f0_12
theorem f_0_45 : (pm_own 0, 45, 1, 7) ∈ pm_fld := f0_45
theorem k_0_56 : (pm_own 0, 56, 18, 1, (some 0 : Option Nat)) ∈ pm_call := k0_56
theorem k_0_59 : (pm_own 0, 59, 24, 1, (some 1 : Option Nat)) ∈ pm_call := k0_59
theorem t_0_49 : (pm_own 0, 49, 1) ∈ pm_thr := by decide
theorem m_0 : pm_mL 0 = 1 := rfl
theorem r_0 : pm_ret 0 = 1 := rfl
theorem i_0_0 : Jvm.ClassFile.decode (pm_bytes 0) 0 = .ok (.aload_n 0, 1) := by decide +kernel
theorem i_0_1 : Jvm.ClassFile.decode (pm_bytes 0) 1 = .ok (.getfield 12, 3) := by decide +kernel
theorem i_0_4 : Jvm.ClassFile.decode (pm_bytes 0) 4 = .ok (.getfield 45, 3) := by decide +kernel
theorem i_0_7 : Jvm.ClassFile.decode (pm_bytes 0) 7 = .ok (.bipush (12), 2) := by decide +kernel
theorem i_0_9 : Jvm.ClassFile.decode (pm_bytes 0) 9 = .ok (.if_icmp .ne (13), 3) := by decide +kernel
theorem i_0_12 : Jvm.ClassFile.decode (pm_bytes 0) 12 = .ok (.new 49, 3) := by decide +kernel
theorem i_0_15 : Jvm.ClassFile.decode (pm_bytes 0) 15 = .ok (.dup, 1) := by decide +kernel
theorem i_0_22 : Jvm.ClassFile.decode (pm_bytes 0) 22 = .ok (.aload_n 0, 1) := by decide +kernel
theorem i_0_23 : Jvm.ClassFile.decode (pm_bytes 0) 23 = .ok (.invokevirtual 56, 3) := by decide +kernel
theorem i_0_26 : Jvm.ClassFile.decode (pm_bytes 0) 26 = .ok (.aload_n 0, 1) := by decide +kernel
theorem i_0_27 : Jvm.ClassFile.decode (pm_bytes 0) 27 = .ok (.getfield 12, 3) := by decide +kernel
theorem i_0_30 : Jvm.ClassFile.decode (pm_bytes 0) 30 = .ok (.invokevirtual 59, 3) := by decide +kernel
theorem i_0_33 : Jvm.ClassFile.decode (pm_bytes 0) 33 = .ok (.ireturn, 1) := by decide +kernel
theorem f_1_12 : (pm_own 1, 12, 0, 0) ∈ pm_fld := f0_12
theorem k_1_56 : (pm_own 1, 56, 18, 1, (some 0 : Option Nat)) ∈ pm_call := k0_56
theorem k_1_63 : (pm_own 1, 63, 17, 2, (some 0 : Option Nat)) ∈ pm_call := k0_63
theorem k_1_67 : (pm_own 1, 67, 14, 1, (none : Option Nat)) ∈ pm_call := k0_67
theorem k_1_71 : (pm_own 1, 71, 25, 4, (some 1 : Option Nat)) ∈ pm_call := k0_71
theorem m_1 : pm_mL 1 = 2 := rfl
theorem r_1 : pm_ret 1 = 1 := rfl
theorem i_1_0 : Jvm.ClassFile.decode (pm_bytes 1) 0 = .ok (.aload_n 0, 1) := by decide +kernel
theorem i_1_1 : Jvm.ClassFile.decode (pm_bytes 1) 1 = .ok (.iload_n 1, 1) := by decide +kernel
theorem i_1_2 : Jvm.ClassFile.decode (pm_bytes 1) 2 = .ok (.invokevirtual 63, 3) := by decide +kernel
theorem i_1_5 : Jvm.ClassFile.decode (pm_bytes 1) 5 = .ok (.aload_n 0, 1) := by decide +kernel
theorem i_1_6 : Jvm.ClassFile.decode (pm_bytes 1) 6 = .ok (.invokevirtual 56, 3) := by decide +kernel
theorem i_1_9 : Jvm.ClassFile.decode (pm_bytes 1) 9 = .ok (.aload_n 0, 1) := by decide +kernel
theorem i_1_10 : Jvm.ClassFile.decode (pm_bytes 1) 10 = .ok (.getfield 12, 3) := by decide +kernel
theorem i_1_13 : Jvm.ClassFile.decode (pm_bytes 1) 13 = .ok (.iload_n 1, 1) := by decide +kernel
theorem i_1_14 : Jvm.ClassFile.decode (pm_bytes 1) 14 = .ok (.invokestatic 67, 3) := by decide +kernel
theorem i_1_17 : Jvm.ClassFile.decode (pm_bytes 1) 17 = .ok (.iconst 0, 1) := by decide +kernel
theorem i_1_18 : Jvm.ClassFile.decode (pm_bytes 1) 18 = .ok (.iconst 1, 1) := by decide +kernel
theorem i_1_19 : Jvm.ClassFile.decode (pm_bytes 1) 19 = .ok (.invokevirtual 71, 3) := by decide +kernel
theorem i_1_22 : Jvm.ClassFile.decode (pm_bytes 1) 22 = .ok (.ireturn, 1) := by decide +kernel
theorem f_2_12 : (pm_own 2, 12, 0, 0) ∈ pm_fld := f0_12
theorem k_2_56 : (pm_own 2, 56, 18, 1, (some 0 : Option Nat)) ∈ pm_call := k0_56
theorem k_2_63 : (pm_own 2, 63, 17, 2, (some 0 : Option Nat)) ∈ pm_call := k0_63
theorem k_2_67 : (pm_own 2, 67, 14, 1, (none : Option Nat)) ∈ pm_call := k0_67
theorem k_2_71 : (pm_own 2, 71, 25, 4, (some 1 : Option Nat)) ∈ pm_call := k0_71
theorem k_2_80 : (pm_own 2, 80, 15, 1, (none : Option Nat)) ∈ pm_call := k0_80
theorem t_2_75 : (pm_own 2, 75, 2) ∈ pm_thr := by decide
theorem m_2 : pm_mL 2 = 4 := rfl
theorem r_2 : pm_ret 2 = 1 := rfl
theorem i_2_0 : Jvm.ClassFile.decode (pm_bytes 2) 0 = .ok (.aload_n 0, 1) := by decide +kernel
theorem i_2_1 : Jvm.ClassFile.decode (pm_bytes 2) 1 = .ok (.iload_n 2, 1) := by decide +kernel
theorem i_2_2 : Jvm.ClassFile.decode (pm_bytes 2) 2 = .ok (.invokevirtual 63, 3) := by decide +kernel
theorem i_2_5 : Jvm.ClassFile.decode (pm_bytes 2) 5 = .ok (.aload_n 0, 1) := by decide +kernel
theorem i_2_6 : Jvm.ClassFile.decode (pm_bytes 2) 6 = .ok (.iload_n 3, 1) := by decide +kernel
theorem i_2_7 : Jvm.ClassFile.decode (pm_bytes 2) 7 = .ok (.invokevirtual 63, 3) := by decide +kernel
theorem i_2_10 : Jvm.ClassFile.decode (pm_bytes 2) 10 = .ok (.iload_n 1, 1) := by decide +kernel
theorem i_2_11 : Jvm.ClassFile.decode (pm_bytes 2) 11 = .ok (.ifCond .eq (23), 3) := by decide +kernel
theorem i_2_14 : Jvm.ClassFile.decode (pm_bytes 2) 14 = .ok (.iload_n 1, 1) := by decide +kernel
theorem i_2_15 : Jvm.ClassFile.decode (pm_bytes 2) 15 = .ok (.iconst 1, 1) := by decide +kernel
theorem i_2_16 : Jvm.ClassFile.decode (pm_bytes 2) 16 = .ok (.if_icmp .eq (18), 3) := by decide +kernel
theorem i_2_19 : Jvm.ClassFile.decode (pm_bytes 2) 19 = .ok (.iload_n 1, 1) := by decide +kernel
theorem i_2_20 : Jvm.ClassFile.decode (pm_bytes 2) 20 = .ok (.iconst 2, 1) := by decide +kernel
theorem i_2_21 : Jvm.ClassFile.decode (pm_bytes 2) 21 = .ok (.if_icmp .eq (13), 3) := by decide +kernel
theorem i_2_24 : Jvm.ClassFile.decode (pm_bytes 2) 24 = .ok (.new 75, 3) := by decide +kernel
theorem i_2_27 : Jvm.ClassFile.decode (pm_bytes 2) 27 = .ok (.dup, 1) := by decide +kernel
theorem i_2_34 : Jvm.ClassFile.decode (pm_bytes 2) 34 = .ok (.aload_n 0, 1) := by decide +kernel
theorem i_2_35 : Jvm.ClassFile.decode (pm_bytes 2) 35 = .ok (.invokevirtual 56, 3) := by decide +kernel
theorem i_2_38 : Jvm.ClassFile.decode (pm_bytes 2) 38 = .ok (.iload_n 1, 1) := by decide +kernel
theorem i_2_39 : Jvm.ClassFile.decode (pm_bytes 2) 39 = .ok (.ifCond .ne (20), 3) := by decide +kernel
theorem i_2_42 : Jvm.ClassFile.decode (pm_bytes 2) 42 = .ok (.aload_n 0, 1) := by decide +kernel
theorem i_2_43 : Jvm.ClassFile.decode (pm_bytes 2) 43 = .ok (.getfield 12, 3) := by decide +kernel
theorem i_2_46 : Jvm.ClassFile.decode (pm_bytes 2) 46 = .ok (.iload_n 2, 1) := by decide +kernel
theorem i_2_47 : Jvm.ClassFile.decode (pm_bytes 2) 47 = .ok (.invokestatic 67, 3) := by decide +kernel
theorem i_2_50 : Jvm.ClassFile.decode (pm_bytes 2) 50 = .ok (.iload_n 3, 1) := by decide +kernel
theorem i_2_51 : Jvm.ClassFile.decode (pm_bytes 2) 51 = .ok (.invokestatic 67, 3) := by decide +kernel
theorem i_2_54 : Jvm.ClassFile.decode (pm_bytes 2) 54 = .ok (.iconst 0, 1) := by decide +kernel
theorem i_2_55 : Jvm.ClassFile.decode (pm_bytes 2) 55 = .ok (.invokevirtual 71, 3) := by decide +kernel
theorem i_2_58 : Jvm.ClassFile.decode (pm_bytes 2) 58 = .ok (.ireturn, 1) := by decide +kernel
theorem i_2_59 : Jvm.ClassFile.decode (pm_bytes 2) 59 = .ok (.iload_n 1, 1) := by decide +kernel
theorem i_2_60 : Jvm.ClassFile.decode (pm_bytes 2) 60 = .ok (.iconst 1, 1) := by decide +kernel
theorem i_2_61 : Jvm.ClassFile.decode (pm_bytes 2) 61 = .ok (.if_icmp .ne (20), 3) := by decide +kernel
theorem i_2_64 : Jvm.ClassFile.decode (pm_bytes 2) 64 = .ok (.aload_n 0, 1) := by decide +kernel
theorem i_2_65 : Jvm.ClassFile.decode (pm_bytes 2) 65 = .ok (.getfield 12, 3) := by decide +kernel
theorem i_2_68 : Jvm.ClassFile.decode (pm_bytes 2) 68 = .ok (.iload_n 2, 1) := by decide +kernel
theorem i_2_69 : Jvm.ClassFile.decode (pm_bytes 2) 69 = .ok (.invokestatic 67, 3) := by decide +kernel
theorem i_2_72 : Jvm.ClassFile.decode (pm_bytes 2) 72 = .ok (.iconst 1, 1) := by decide +kernel
theorem i_2_73 : Jvm.ClassFile.decode (pm_bytes 2) 73 = .ok (.iload_n 3, 1) := by decide +kernel
theorem i_2_74 : Jvm.ClassFile.decode (pm_bytes 2) 74 = .ok (.invokestatic 67, 3) := by decide +kernel
theorem i_2_77 : Jvm.ClassFile.decode (pm_bytes 2) 77 = .ok (.invokevirtual 71, 3) := by decide +kernel
theorem i_2_80 : Jvm.ClassFile.decode (pm_bytes 2) 80 = .ok (.ireturn, 1) := by decide +kernel
theorem i_2_81 : Jvm.ClassFile.decode (pm_bytes 2) 81 = .ok (.aload_n 0, 1) := by decide +kernel
theorem i_2_82 : Jvm.ClassFile.decode (pm_bytes 2) 82 = .ok (.getfield 12, 3) := by decide +kernel
theorem i_2_85 : Jvm.ClassFile.decode (pm_bytes 2) 85 = .ok (.iload_n 2, 1) := by decide +kernel
theorem i_2_86 : Jvm.ClassFile.decode (pm_bytes 2) 86 = .ok (.invokestatic 67, 3) := by decide +kernel
theorem i_2_89 : Jvm.ClassFile.decode (pm_bytes 2) 89 = .ok (.iload_n 3, 1) := by decide +kernel
theorem i_2_90 : Jvm.ClassFile.decode (pm_bytes 2) 90 = .ok (.invokestatic 67, 3) := by decide +kernel
theorem i_2_93 : Jvm.ClassFile.decode (pm_bytes 2) 93 = .ok (.invokestatic 80, 3) := by decide +kernel
theorem i_2_96 : Jvm.ClassFile.decode (pm_bytes 2) 96 = .ok (.iload_n 3, 1) := by decide +kernel
theorem i_2_97 : Jvm.ClassFile.decode (pm_bytes 2) 97 = .ok (.invokestatic 67, 3) := by decide +kernel
theorem i_2_100 : Jvm.ClassFile.decode (pm_bytes 2) 100 = .ok (.invokevirtual 71, 3) := by decide +kernel
theorem i_2_103 : Jvm.ClassFile.decode (pm_bytes 2) 103 = .ok (.ireturn, 1) := by decide +kernel
theorem f_3_12 : (pm_own 3, 12, 0, 0) ∈ pm_fld := f0_12
theorem k_3_56 : (pm_own 3, 56, 18, 1, (some 0 : Option Nat)) ∈ pm_call := k0_56
theorem k_3_63 : (pm_own 3, 63, 17, 2, (some 0 : Option Nat)) ∈ pm_call := k0_63
theorem k_3_67 : (pm_own 3, 67, 14, 1, (none : Option Nat)) ∈ pm_call := k0_67
theorem k_3_71 : (pm_own 3, 71, 25, 4, (some 1 : Option Nat)) ∈ pm_call := k0_71
theorem m_3 : pm_mL 3 = 4 := rfl
theorem r_3 : pm_ret 3 = 1 := rfl
theorem i_3_0 : Jvm.ClassFile.decode (pm_bytes 3) 0 = .ok (.aload_n 0, 1) := by decide +kernel
theorem i_3_1 : Jvm.ClassFile.decode (pm_bytes 3) 1 = .ok (.iload_n 1, 1) := by decide +kernel
theorem i_3_2 : Jvm.ClassFile.decode (pm_bytes 3) 2 = .ok (.invokevirtual 63, 3) := by decide +kernel
theorem i_3_5 : Jvm.ClassFile.decode (pm_bytes 3) 5 = .ok (.aload_n 0, 1) := by decide +kernel
theorem i_3_6 : Jvm.ClassFile.decode (pm_bytes 3) 6 = .ok (.iload_n 2, 1) := by decide +kernel
theorem i_3_7 : Jvm.ClassFile.decode (pm_bytes 3) 7 = .ok (.invokevirtual 63, 3) := by decide +kernel
theorem i_3_10 : Jvm.ClassFile.decode (pm_bytes 3) 10 = .ok (.aload_n 0, 1) := by decide +kernel
theorem i_3_11 : Jvm.ClassFile.decode (pm_bytes 3) 11 = .ok (.iload_n 3, 1) := by decide +kernel
theorem i_3_12 : Jvm.ClassFile.decode (pm_bytes 3) 12 = .ok (.invokevirtual 63, 3) := by decide +kernel
theorem i_3_15 : Jvm.ClassFile.decode (pm_bytes 3) 15 = .ok (.aload_n 0, 1) := by decide +kernel
theorem i_3_16 : Jvm.ClassFile.decode (pm_bytes 3) 16 = .ok (.invokevirtual 56, 3) := by decide +kernel
theorem i_3_19 : Jvm.ClassFile.decode (pm_bytes 3) 19 = .ok (.aload_n 0, 1) := by decide +kernel
theorem i_3_20 : Jvm.ClassFile.decode (pm_bytes 3) 20 = .ok (.getfield 12, 3) := by decide +kernel
theorem i_3_23 : Jvm.ClassFile.decode (pm_bytes 3) 23 = .ok (.iload_n 1, 1) := by decide +kernel
theorem i_3_24 : Jvm.ClassFile.decode (pm_bytes 3) 24 = .ok (.invokestatic 67, 3) := by decide +kernel
theorem i_3_27 : Jvm.ClassFile.decode (pm_bytes 3) 27 = .ok (.iload_n 2, 1) := by decide +kernel
theorem i_3_28 : Jvm.ClassFile.decode (pm_bytes 3) 28 = .ok (.invokestatic 67, 3) := by decide +kernel
theorem i_3_31 : Jvm.ClassFile.decode (pm_bytes 3) 31 = .ok (.iload_n 3, 1) := by decide +kernel
theorem i_3_32 : Jvm.ClassFile.decode (pm_bytes 3) 32 = .ok (.invokestatic 67, 3) := by decide +kernel
theorem i_3_35 : Jvm.ClassFile.decode (pm_bytes 3) 35 = .ok (.invokevirtual 71, 3) := by decide +kernel
theorem i_3_38 : Jvm.ClassFile.decode (pm_bytes 3) 38 = .ok (.ireturn, 1) := by decide +kernel
theorem f_4_41 : (pm_own 4, 41, 0, 4) ∈ pm_fld := f0_41
theorem f_4_83 : (pm_own 4, 83, 0, 5) ∈ pm_fld := f0_83
theorem k_4_63 : (pm_own 4, 63, 17, 2, (some 0 : Option Nat)) ∈ pm_call := k0_63
theorem t_4_49 : (pm_own 4, 49, 1) ∈ pm_thr := by decide
theorem m_4 : pm_mL 4 = 2 := rfl
theorem r_4 : pm_ret 4 = 1 := rfl
theorem i_4_0 : Jvm.ClassFile.decode (pm_bytes 4) 0 = .ok (.aload_n 0, 1) := by decide +kernel
theorem i_4_1 : Jvm.ClassFile.decode (pm_bytes 4) 1 = .ok (.iload_n 1, 1) := by decide +kernel
theorem i_4_2 : Jvm.ClassFile.decode (pm_bytes 4) 2 = .ok (.invokevirtual 63, 3) := by decide +kernel
theorem i_4_5 : Jvm.ClassFile.decode (pm_bytes 4) 5 = .ok (.aload_n 0, 1) := by decide +kernel
theorem i_4_6 : Jvm.ClassFile.decode (pm_bytes 4) 6 = .ok (.getfield 83, 3) := by decide +kernel
theorem i_4_9 : Jvm.ClassFile.decode (pm_bytes 4) 9 = .ok (.bipush (20), 2) := by decide +kernel
theorem i_4_11 : Jvm.ClassFile.decode (pm_bytes 4) 11 = .ok (.if_icmp .ne (13), 3) := by decide +kernel
theorem i_4_14 : Jvm.ClassFile.decode (pm_bytes 4) 14 = .ok (.new 49, 3) := by decide +kernel
theorem i_4_17 : Jvm.ClassFile.decode (pm_bytes 4) 17 = .ok (.dup, 1) := by decide +kernel
theorem i_4_24 : Jvm.ClassFile.decode (pm_bytes 4) 24 = .ok (.aload_n 0, 1) := by decide +kernel
theorem i_4_25 : Jvm.ClassFile.decode (pm_bytes 4) 25 = .ok (.getfield 41, 3) := by decide +kernel
theorem i_4_28 : Jvm.ClassFile.decode (pm_bytes 4) 28 = .ok (.aload_n 0, 1) := by decide +kernel
theorem i_4_29 : Jvm.ClassFile.decode (pm_bytes 4) 29 = .ok (.getfield 83, 3) := by decide +kernel
theorem i_4_32 : Jvm.ClassFile.decode (pm_bytes 4) 32 = .ok (.iload_n 1, 1) := by decide +kernel
theorem i_4_33 : Jvm.ClassFile.decode (pm_bytes 4) 33 = .ok (.iastore, 1) := by decide +kernel
theorem i_4_34 : Jvm.ClassFile.decode (pm_bytes 4) 34 = .ok (.aload_n 0, 1) := by decide +kernel
theorem i_4_35 : Jvm.ClassFile.decode (pm_bytes 4) 35 = .ok (.dup, 1) := by decide +kernel
theorem i_4_36 : Jvm.ClassFile.decode (pm_bytes 4) 36 = .ok (.getfield 83, 3) := by decide +kernel
theorem i_4_39 : Jvm.ClassFile.decode (pm_bytes 4) 39 = .ok (.iconst 1, 1) := by decide +kernel
theorem i_4_40 : Jvm.ClassFile.decode (pm_bytes 4) 40 = .ok (.iadd, 1) := by decide +kernel
theorem i_4_41 : Jvm.ClassFile.decode (pm_bytes 4) 41 = .ok (.putfield 83, 3) := by decide +kernel
theorem i_4_44 : Jvm.ClassFile.decode (pm_bytes 4) 44 = .ok (.aload_n 0, 1) := by decide +kernel
theorem i_4_45 : Jvm.ClassFile.decode (pm_bytes 4) 45 = .ok (.getfield 83, 3) := by decide +kernel
theorem i_4_48 : Jvm.ClassFile.decode (pm_bytes 4) 48 = .ok (.ireturn, 1) := by decide +kernel
theorem f_5_83 : (pm_own 5, 83, 0, 5) ∈ pm_fld := f0_83
theorem m_5 : pm_mL 5 = 2 := rfl
theorem r_5 : pm_ret 5 = 1 := rfl
theorem i_5_0 : Jvm.ClassFile.decode (pm_bytes 5) 0 = .ok (.aload_n 0, 1) := by decide +kernel
theorem i_5_1 : Jvm.ClassFile.decode (pm_bytes 5) 1 = .ok (.getfield 83, 3) := by decide +kernel
theorem i_5_4 : Jvm.ClassFile.decode (pm_bytes 5) 4 = .ok (.istore_n 1, 1) := by decide +kernel
theorem i_5_5 : Jvm.ClassFile.decode (pm_bytes 5) 5 = .ok (.aload_n 0, 1) := by decide +kernel
theorem i_5_6 : Jvm.ClassFile.decode (pm_bytes 5) 6 = .ok (.iconst 0, 1) := by decide +kernel
theorem i_5_7 : Jvm.ClassFile.decode (pm_bytes 5) 7 = .ok (.putfield 83, 3) := by decide +kernel
theorem i_5_10 : Jvm.ClassFile.decode (pm_bytes 5) 10 = .ok (.iload_n 1, 1) := by decide +kernel
theorem i_5_11 : Jvm.ClassFile.decode (pm_bytes 5) 11 = .ok (.ireturn, 1) := by decide +kernel
theorem k_6_88 : (pm_own 6, 88, 19, 2, (some 0 : Option Nat)) ∈ pm_call := k0_88
theorem k_6_91 : (pm_own 6, 91, 21, 1, (some 0 : Option Nat)) ∈ pm_call := k0_91
theorem k_6_95 : (pm_own 6, 95, 22, 1, (some 0 : Option Nat)) ∈ pm_call := k0_95
theorem m_6 : pm_mL 6 = 2 := rfl
theorem r_6 : pm_ret 6 = 2 := rfl
theorem i_6_0 : Jvm.ClassFile.decode (pm_bytes 6) 0 = .ok (.aload_n 0, 1) := by decide +kernel
theorem i_6_1 : Jvm.ClassFile.decode (pm_bytes 6) 1 = .ok (.iconst (-1), 1) := by decide +kernel
theorem i_6_2 : Jvm.ClassFile.decode (pm_bytes 6) 2 = .ok (.invokevirtual 88, 3) := by decide +kernel
theorem i_6_5 : Jvm.ClassFile.decode (pm_bytes 6) 5 = .ok (.aload_n 0, 1) := by decide +kernel
theorem i_6_6 : Jvm.ClassFile.decode (pm_bytes 6) 6 = .ok (.invokevirtual 91, 3) := by decide +kernel
theorem i_6_9 : Jvm.ClassFile.decode (pm_bytes 6) 9 = .ok (.istore_n 1, 1) := by decide +kernel
theorem i_6_10 : Jvm.ClassFile.decode (pm_bytes 6) 10 = .ok (.iload_n 1, 1) := by decide +kernel
theorem i_6_11 : Jvm.ClassFile.decode (pm_bytes 6) 11 = .ok (.ifCond .eq (7), 3) := by decide +kernel
theorem i_6_14 : Jvm.ClassFile.decode (pm_bytes 6) 14 = .ok (.aload_n 0, 1) := by decide +kernel
theorem i_6_15 : Jvm.ClassFile.decode (pm_bytes 6) 15 = .ok (.invokevirtual 95, 3) := by decide +kernel
theorem i_6_18 : Jvm.ClassFile.decode (pm_bytes 6) 18 = .ok (.iload_n 1, 1) := by decide +kernel
theorem i_6_19 : Jvm.ClassFile.decode (pm_bytes 6) 19 = .ok (.ireturn, 1) := by decide +kernel
theorem f_7_83 : (pm_own 7, 83, 0, 5) ∈ pm_fld := f0_83
theorem k_7_88 : (pm_own 7, 88, 19, 2, (some 0 : Option Nat)) ∈ pm_call := k0_88
theorem k_7_91 : (pm_own 7, 91, 21, 1, (some 0 : Option Nat)) ∈ pm_call := k0_91
theorem k_7_98 : (pm_own 7, 98, 23, 2, (some 0 : Option Nat)) ∈ pm_call := k0_98
theorem m_7 : pm_mL 7 = 3 := rfl
theorem r_7 : pm_ret 7 = 1 := rfl
theorem i_7_0 : Jvm.ClassFile.decode (pm_bytes 7) 0 = .ok (.aload_n 0, 1) := by decide +kernel
theorem i_7_1 : Jvm.ClassFile.decode (pm_bytes 7) 1 = .ok (.iconst (-1), 1) := by decide +kernel
theorem i_7_2 : Jvm.ClassFile.decode (pm_bytes 7) 2 = .ok (.invokevirtual 88, 3) := by decide +kernel
theorem i_7_5 : Jvm.ClassFile.decode (pm_bytes 7) 5 = .ok (.aload_n 0, 1) := by decide +kernel
theorem i_7_6 : Jvm.ClassFile.decode (pm_bytes 7) 6 = .ok (.invokevirtual 91, 3) := by decide +kernel
theorem i_7_9 : Jvm.ClassFile.decode (pm_bytes 7) 9 = .ok (.ifCond .eq (5), 3) := by decide +kernel
theorem i_7_12 : Jvm.ClassFile.decode (pm_bytes 7) 12 = .ok (.iconst (-1), 1) := by decide +kernel
theorem i_7_13 : Jvm.ClassFile.decode (pm_bytes 7) 13 = .ok (.ireturn, 1) := by decide +kernel
theorem i_7_14 : Jvm.ClassFile.decode (pm_bytes 7) 14 = .ok (.iconst 0, 1) := by decide +kernel
theorem i_7_15 : Jvm.ClassFile.decode (pm_bytes 7) 15 = .ok (.istore_n 1, 1) := by decide +kernel
theorem i_7_16 : Jvm.ClassFile.decode (pm_bytes 7) 16 = .ok (.aload_n 0, 1) := by decide +kernel
theorem i_7_17 : Jvm.ClassFile.decode (pm_bytes 7) 17 = .ok (.getfield 83, 3) := by decide +kernel
theorem i_7_20 : Jvm.ClassFile.decode (pm_bytes 7) 20 = .ok (.istore_n 2, 1) := by decide +kernel
theorem i_7_21 : Jvm.ClassFile.decode (pm_bytes 7) 21 = .ok (.iload_n 2, 1) := by decide +kernel
theorem i_7_22 : Jvm.ClassFile.decode (pm_bytes 7) 22 = .ok (.ifCond .le (32), 3) := by decide +kernel
theorem i_7_25 : Jvm.ClassFile.decode (pm_bytes 7) 25 = .ok (.aload_n 0, 1) := by decide +kernel
theorem i_7_26 : Jvm.ClassFile.decode (pm_bytes 7) 26 = .ok (.iload_n 1, 1) := by decide +kernel
theorem i_7_27 : Jvm.ClassFile.decode (pm_bytes 7) 27 = .ok (.invokevirtual 88, 3) := by decide +kernel
theorem i_7_30 : Jvm.ClassFile.decode (pm_bytes 7) 30 = .ok (.aload_n 0, 1) := by decide +kernel
theorem i_7_31 : Jvm.ClassFile.decode (pm_bytes 7) 31 = .ok (.invokevirtual 91, 3) := by decide +kernel
theorem i_7_34 : Jvm.ClassFile.decode (pm_bytes 7) 34 = .ok (.ifCond .eq (9), 3) := by decide +kernel
theorem i_7_37 : Jvm.ClassFile.decode (pm_bytes 7) 37 = .ok (.iinc 1 (1), 3) := by decide +kernel
theorem i_7_40 : Jvm.ClassFile.decode (pm_bytes 7) 40 = .ok (.goto (8), 3) := by decide +kernel
theorem i_7_43 : Jvm.ClassFile.decode (pm_bytes 7) 43 = .ok (.aload_n 0, 1) := by decide +kernel
theorem i_7_44 : Jvm.ClassFile.decode (pm_bytes 7) 44 = .ok (.iload_n 1, 1) := by decide +kernel
theorem i_7_45 : Jvm.ClassFile.decode (pm_bytes 7) 45 = .ok (.invokevirtual 98, 3) := by decide +kernel
theorem i_7_48 : Jvm.ClassFile.decode (pm_bytes 7) 48 = .ok (.iinc 2 (-1), 3) := by decide +kernel
theorem i_7_51 : Jvm.ClassFile.decode (pm_bytes 7) 51 = .ok (.goto (-30), 3) := by decide +kernel
theorem i_7_54 : Jvm.ClassFile.decode (pm_bytes 7) 54 = .ok (.aload_n 0, 1) := by decide +kernel
theorem i_7_55 : Jvm.ClassFile.decode (pm_bytes 7) 55 = .ok (.getfield 83, 3) := by decide +kernel
theorem i_7_58 : Jvm.ClassFile.decode (pm_bytes 7) 58 = .ok (.ireturn, 1) := by decide +kernel
theorem f_8_41 : (pm_own 8, 41, 0, 4) ∈ pm_fld := f0_41
theorem f_8_83 : (pm_own 8, 83, 0, 5) ∈ pm_fld := f0_83
theorem t_8_101 : (pm_own 8, 101, 0) ∈ pm_thr := by decide
theorem m_8 : pm_mL 8 = 2 := rfl
theorem r_8 : pm_ret 8 = 1 := rfl
theorem i_8_0 : Jvm.ClassFile.decode (pm_bytes 8) 0 = .ok (.iload_n 1, 1) := by decide +kernel
theorem i_8_1 : Jvm.ClassFile.decode (pm_bytes 8) 1 = .ok (.ifCond .lt (11), 3) := by decide +kernel
theorem i_8_4 : Jvm.ClassFile.decode (pm_bytes 8) 4 = .ok (.iload_n 1, 1) := by decide +kernel
theorem i_8_5 : Jvm.ClassFile.decode (pm_bytes 8) 5 = .ok (.aload_n 0, 1) := by decide +kernel
theorem i_8_6 : Jvm.ClassFile.decode (pm_bytes 8) 6 = .ok (.getfield 83, 3) := by decide +kernel
theorem i_8_9 : Jvm.ClassFile.decode (pm_bytes 8) 9 = .ok (.if_icmp .lt (13), 3) := by decide +kernel
theorem i_8_12 : Jvm.ClassFile.decode (pm_bytes 8) 12 = .ok (.new 101, 3) := by decide +kernel
theorem i_8_15 : Jvm.ClassFile.decode (pm_bytes 8) 15 = .ok (.dup, 1) := by decide +kernel
theorem i_8_22 : Jvm.ClassFile.decode (pm_bytes 8) 22 = .ok (.aload_n 0, 1) := by decide +kernel
theorem i_8_23 : Jvm.ClassFile.decode (pm_bytes 8) 23 = .ok (.getfield 41, 3) := by decide +kernel
theorem i_8_26 : Jvm.ClassFile.decode (pm_bytes 8) 26 = .ok (.iload_n 1, 1) := by decide +kernel
theorem i_8_27 : Jvm.ClassFile.decode (pm_bytes 8) 27 = .ok (.iaload, 1) := by decide +kernel
theorem i_8_28 : Jvm.ClassFile.decode (pm_bytes 8) 28 = .ok (.ireturn, 1) := by decide +kernel
theorem k_9_63 : (pm_own 9, 63, 17, 2, (some 0 : Option Nat)) ∈ pm_call := k0_63
theorem k_9_91 : (pm_own 9, 91, 21, 1, (some 0 : Option Nat)) ∈ pm_call := k0_91
theorem k_9_95 : (pm_own 9, 95, 22, 1, (some 0 : Option Nat)) ∈ pm_call := k0_95
theorem k_9_106 : (pm_own 9, 106, 20, 3, (some 0 : Option Nat)) ∈ pm_call := k0_106
theorem m_9 : pm_mL 9 = 4 := rfl
theorem r_9 : pm_ret 9 = 2 := rfl
theorem i_9_0 : Jvm.ClassFile.decode (pm_bytes 9) 0 = .ok (.aload_n 0, 1) := by decide +kernel
theorem i_9_1 : Jvm.ClassFile.decode (pm_bytes 9) 1 = .ok (.iload_n 1, 1) := by decide +kernel
theorem i_9_2 : Jvm.ClassFile.decode (pm_bytes 9) 2 = .ok (.invokevirtual 63, 3) := by decide +kernel
theorem i_9_5 : Jvm.ClassFile.decode (pm_bytes 9) 5 = .ok (.aload_n 0, 1) := by decide +kernel
theorem i_9_6 : Jvm.ClassFile.decode (pm_bytes 9) 6 = .ok (.iload_n 2, 1) := by decide +kernel
theorem i_9_7 : Jvm.ClassFile.decode (pm_bytes 9) 7 = .ok (.invokevirtual 63, 3) := by decide +kernel
theorem i_9_10 : Jvm.ClassFile.decode (pm_bytes 9) 10 = .ok (.aload_n 0, 1) := by decide +kernel
theorem i_9_11 : Jvm.ClassFile.decode (pm_bytes 9) 11 = .ok (.iload_n 1, 1) := by decide +kernel
theorem i_9_12 : Jvm.ClassFile.decode (pm_bytes 9) 12 = .ok (.iload_n 2, 1) := by decide +kernel
theorem i_9_13 : Jvm.ClassFile.decode (pm_bytes 9) 13 = .ok (.invokevirtual 106, 3) := by decide +kernel
theorem i_9_16 : Jvm.ClassFile.decode (pm_bytes 9) 16 = .ok (.aload_n 0, 1) := by decide +kernel
theorem i_9_17 : Jvm.ClassFile.decode (pm_bytes 9) 17 = .ok (.invokevirtual 91, 3) := by decide +kernel
theorem i_9_20 : Jvm.ClassFile.decode (pm_bytes 9) 20 = .ok (.istore_n 3, 1) := by decide +kernel
theorem i_9_21 : Jvm.ClassFile.decode (pm_bytes 9) 21 = .ok (.iload_n 3, 1) := by decide +kernel
theorem i_9_22 : Jvm.ClassFile.decode (pm_bytes 9) 22 = .ok (.ifCond .eq (7), 3) := by decide +kernel
theorem i_9_25 : Jvm.ClassFile.decode (pm_bytes 9) 25 = .ok (.aload_n 0, 1) := by decide +kernel
theorem i_9_26 : Jvm.ClassFile.decode (pm_bytes 9) 26 = .ok (.invokevirtual 95, 3) := by decide +kernel
theorem i_9_29 : Jvm.ClassFile.decode (pm_bytes 9) 29 = .ok (.iload_n 3, 1) := by decide +kernel
theorem i_9_30 : Jvm.ClassFile.decode (pm_bytes 9) 30 = .ok (.ifCond .ne (7), 3) := by decide +kernel
theorem i_9_33 : Jvm.ClassFile.decode (pm_bytes 9) 33 = .ok (.iconst 1, 1) := by decide +kernel
theorem i_9_34 : Jvm.ClassFile.decode (pm_bytes 9) 34 = .ok (.goto (4), 3) := by decide +kernel
theorem i_9_37 : Jvm.ClassFile.decode (pm_bytes 9) 37 = .ok (.iconst 0, 1) := by decide +kernel
theorem i_9_38 : Jvm.ClassFile.decode (pm_bytes 9) 38 = .ok (.ireturn, 1) := by decide +kernel
theorem f_10_12 : (pm_own 10, 12, 0, 0) ∈ pm_fld := f0_12
theorem f_10_45 : (pm_own 10, 45, 1, 7) ∈ pm_fld := f0_45
theorem f_10_112 : (pm_own 10, 112, 1, 5) ∈ pm_fld := f0_112
theorem f_10_115 : (pm_own 10, 115, 1, 3) ∈ pm_fld := f0_115
theorem t_10_101 : (pm_own 10, 101, 0) ∈ pm_thr := by decide
theorem m_10 : pm_mL 10 = 5 := rfl
theorem r_10 : pm_ret 10 = 2 := rfl
theorem i_10_0 : Jvm.ClassFile.decode (pm_bytes 10) 0 = .ok (.iload_n 1, 1) := by decide +kernel
theorem i_10_1 : Jvm.ClassFile.decode (pm_bytes 10) 1 = .ok (.ifCond .lt (14), 3) := by decide +kernel
theorem i_10_4 : Jvm.ClassFile.decode (pm_bytes 10) 4 = .ok (.iload_n 1, 1) := by decide +kernel
theorem i_10_5 : Jvm.ClassFile.decode (pm_bytes 10) 5 = .ok (.aload_n 0, 1) := by decide +kernel
theorem i_10_6 : Jvm.ClassFile.decode (pm_bytes 10) 6 = .ok (.getfield 12, 3) := by decide +kernel
theorem i_10_9 : Jvm.ClassFile.decode (pm_bytes 10) 9 = .ok (.getfield 45, 3) := by decide +kernel
theorem i_10_12 : Jvm.ClassFile.decode (pm_bytes 10) 12 = .ok (.if_icmp .lt (13), 3) := by decide +kernel
theorem i_10_15 : Jvm.ClassFile.decode (pm_bytes 10) 15 = .ok (.new 101, 3) := by decide +kernel
theorem i_10_18 : Jvm.ClassFile.decode (pm_bytes 10) 18 = .ok (.dup, 1) := by decide +kernel
theorem i_10_25 : Jvm.ClassFile.decode (pm_bytes 10) 25 = .ok (.aload_n 0, 1) := by decide +kernel
theorem i_10_26 : Jvm.ClassFile.decode (pm_bytes 10) 26 = .ok (.getfield 12, 3) := by decide +kernel
theorem i_10_29 : Jvm.ClassFile.decode (pm_bytes 10) 29 = .ok (.getfield 112, 3) := by decide +kernel
theorem i_10_32 : Jvm.ClassFile.decode (pm_bytes 10) 32 = .ok (.iload_n 1, 1) := by decide +kernel
theorem i_10_33 : Jvm.ClassFile.decode (pm_bytes 10) 33 = .ok (.iaload, 1) := by decide +kernel
theorem i_10_34 : Jvm.ClassFile.decode (pm_bytes 10) 34 = .ok (.istore_n 3, 1) := by decide +kernel
theorem i_10_35 : Jvm.ClassFile.decode (pm_bytes 10) 35 = .ok (.aload_n 0, 1) := by decide +kernel
theorem i_10_36 : Jvm.ClassFile.decode (pm_bytes 10) 36 = .ok (.getfield 12, 3) := by decide +kernel
theorem i_10_39 : Jvm.ClassFile.decode (pm_bytes 10) 39 = .ok (.getfield 115, 3) := by decide +kernel
theorem i_10_42 : Jvm.ClassFile.decode (pm_bytes 10) 42 = .ok (.iload_n 3, 1) := by decide +kernel
theorem i_10_43 : Jvm.ClassFile.decode (pm_bytes 10) 43 = .ok (.baload, 1) := by decide +kernel
theorem i_10_44 : Jvm.ClassFile.decode (pm_bytes 10) 44 = .ok (.istore 4, 2) := by decide +kernel
theorem i_10_46 : Jvm.ClassFile.decode (pm_bytes 10) 46 = .ok (.aload_n 0, 1) := by decide +kernel
theorem i_10_47 : Jvm.ClassFile.decode (pm_bytes 10) 47 = .ok (.getfield 12, 3) := by decide +kernel
theorem i_10_50 : Jvm.ClassFile.decode (pm_bytes 10) 50 = .ok (.getfield 115, 3) := by decide +kernel
theorem i_10_53 : Jvm.ClassFile.decode (pm_bytes 10) 53 = .ok (.iload_n 3, 1) := by decide +kernel
theorem i_10_54 : Jvm.ClassFile.decode (pm_bytes 10) 54 = .ok (.iload_n 2, 1) := by decide +kernel
theorem i_10_55 : Jvm.ClassFile.decode (pm_bytes 10) 55 = .ok (.bastore, 1) := by decide +kernel
theorem i_10_56 : Jvm.ClassFile.decode (pm_bytes 10) 56 = .ok (.iload 4, 2) := by decide +kernel
theorem i_10_58 : Jvm.ClassFile.decode (pm_bytes 10) 58 = .ok (.ireturn, 1) := by decide +kernel
theorem f_11_12 : (pm_own 11, 12, 0, 0) ∈ pm_fld := f0_12
theorem k_11_63 : (pm_own 11, 63, 17, 2, (some 0 : Option Nat)) ∈ pm_call := k0_63
theorem k_11_119 : (pm_own 11, 119, 26, 2, (some 1 : Option Nat)) ∈ pm_call := k0_119
theorem m_11 : pm_mL 11 = 2 := rfl
theorem r_11 : pm_ret 11 = 2 := rfl
theorem i_11_0 : Jvm.ClassFile.decode (pm_bytes 11) 0 = .ok (.aload_n 0, 1) := by decide +kernel
theorem i_11_1 : Jvm.ClassFile.decode (pm_bytes 11) 1 = .ok (.iload_n 1, 1) := by decide +kernel
theorem i_11_2 : Jvm.ClassFile.decode (pm_bytes 11) 2 = .ok (.invokevirtual 63, 3) := by decide +kernel
theorem i_11_5 : Jvm.ClassFile.decode (pm_bytes 11) 5 = .ok (.aload_n 0, 1) := by decide +kernel
theorem i_11_6 : Jvm.ClassFile.decode (pm_bytes 11) 6 = .ok (.getfield 12, 3) := by decide +kernel
theorem i_11_9 : Jvm.ClassFile.decode (pm_bytes 11) 9 = .ok (.iload_n 1, 1) := by decide +kernel
theorem i_11_10 : Jvm.ClassFile.decode (pm_bytes 11) 10 = .ok (.invokevirtual 119, 3) := by decide +kernel
theorem i_11_13 : Jvm.ClassFile.decode (pm_bytes 11) 13 = .ok (.ireturn, 1) := by decide +kernel
theorem f_12_123 : (pm_own 12, 123, 0, 6) ∈ pm_fld := f0_123
theorem m_12 : pm_mL 12 = 1 := rfl
theorem r_12 : pm_ret 12 = 1 := rfl
theorem i_12_0 : Jvm.ClassFile.decode (pm_bytes 12) 0 = .ok (.aload_n 0, 1) := by decide +kernel
theorem i_12_1 : Jvm.ClassFile.decode (pm_bytes 12) 1 = .ok (.getfield 123, 3) := by decide +kernel
theorem i_12_4 : Jvm.ClassFile.decode (pm_bytes 12) 4 = .ok (.ireturn, 1) := by decide +kernel
theorem f_13_12 : (pm_own 13, 12, 0, 0) ∈ pm_fld := f0_12
theorem f_13_45 : (pm_own 13, 45, 1, 7) ∈ pm_fld := f0_45
theorem f_13_83 : (pm_own 13, 83, 0, 5) ∈ pm_fld := f0_83
theorem f_13_126 : (pm_own 13, 126, 1, 6) ∈ pm_fld := f0_126
theorem m_13 : pm_mL 13 = 2 := rfl
theorem r_13 : pm_ret 13 = 1 := rfl
theorem i_13_0 : Jvm.ClassFile.decode (pm_bytes 13) 0 = .ok (.iload_n 1, 1) := by decide +kernel
theorem i_13_1 : Jvm.ClassFile.decode (pm_bytes 13) 1 = .ok (.tableswitch (48) (0) (2) #[27, 35, 43], 27) := by decide +kernel
theorem i_13_28 : Jvm.ClassFile.decode (pm_bytes 13) 28 = .ok (.aload_n 0, 1) := by decide +kernel
theorem i_13_29 : Jvm.ClassFile.decode (pm_bytes 13) 29 = .ok (.getfield 12, 3) := by decide +kernel
theorem i_13_32 : Jvm.ClassFile.decode (pm_bytes 13) 32 = .ok (.getfield 126, 3) := by decide +kernel
theorem i_13_35 : Jvm.ClassFile.decode (pm_bytes 13) 35 = .ok (.ireturn, 1) := by decide +kernel
theorem i_13_36 : Jvm.ClassFile.decode (pm_bytes 13) 36 = .ok (.aload_n 0, 1) := by decide +kernel
theorem i_13_37 : Jvm.ClassFile.decode (pm_bytes 13) 37 = .ok (.getfield 12, 3) := by decide +kernel
theorem i_13_40 : Jvm.ClassFile.decode (pm_bytes 13) 40 = .ok (.getfield 45, 3) := by decide +kernel
theorem i_13_43 : Jvm.ClassFile.decode (pm_bytes 13) 43 = .ok (.ireturn, 1) := by decide +kernel
theorem i_13_44 : Jvm.ClassFile.decode (pm_bytes 13) 44 = .ok (.aload_n 0, 1) := by decide +kernel
theorem i_13_45 : Jvm.ClassFile.decode (pm_bytes 13) 45 = .ok (.getfield 83, 3) := by decide +kernel
theorem i_13_48 : Jvm.ClassFile.decode (pm_bytes 13) 48 = .ok (.ireturn, 1) := by decide +kernel
theorem i_13_49 : Jvm.ClassFile.decode (pm_bytes 13) 49 = .ok (.iconst (-1), 1) := by decide +kernel
theorem i_13_50 : Jvm.ClassFile.decode (pm_bytes 13) 50 = .ok (.ireturn, 1) := by decide +kernel
theorem m_14 : pm_mL 14 = 1 := rfl
theorem r_14 : pm_ret 14 = 1 := rfl
theorem i_14_0 : Jvm.ClassFile.decode (pm_bytes 14) 0 = .ok (.iconst 2, 1) := by decide +kernel
theorem i_14_1 : Jvm.ClassFile.decode (pm_bytes 14) 1 = .ok (.iload_n 0, 1) := by decide +kernel
theorem i_14_2 : Jvm.ClassFile.decode (pm_bytes 14) 2 = .ok (.imul, 1) := by decide +kernel
theorem i_14_3 : Jvm.ClassFile.decode (pm_bytes 14) 3 = .ok (.ireturn, 1) := by decide +kernel
theorem m_15 : pm_mL 15 = 1 := rfl
theorem r_15 : pm_ret 15 = 1 := rfl
theorem i_15_0 : Jvm.ClassFile.decode (pm_bytes 15) 0 = .ok (.iload_n 0, 1) := by decide +kernel
theorem i_15_1 : Jvm.ClassFile.decode (pm_bytes 15) 1 = .ok (.iconst 1, 1) := by decide +kernel
theorem i_15_2 : Jvm.ClassFile.decode (pm_bytes 15) 2 = .ok (.ixor, 1) := by decide +kernel
theorem i_15_3 : Jvm.ClassFile.decode (pm_bytes 15) 3 = .ok (.ireturn, 1) := by decide +kernel
theorem m_16 : pm_mL 16 = 1 := rfl
theorem r_16 : pm_ret 16 = 1 := rfl
theorem i_16_0 : Jvm.ClassFile.decode (pm_bytes 16) 0 = .ok (.iload_n 0, 1) := by decide +kernel
theorem i_16_1 : Jvm.ClassFile.decode (pm_bytes 16) 1 = .ok (.iconst 1, 1) := by decide +kernel
theorem i_16_2 : Jvm.ClassFile.decode (pm_bytes 16) 2 = .ok (.ishr, 1) := by decide +kernel
theorem i_16_3 : Jvm.ClassFile.decode (pm_bytes 16) 3 = .ok (.ireturn, 1) := by decide +kernel
theorem f_17_12 : (pm_own 17, 12, 0, 0) ∈ pm_fld := f0_12
theorem f_17_126 : (pm_own 17, 126, 1, 6) ∈ pm_fld := f0_126
theorem t_17_101 : (pm_own 17, 101, 0) ∈ pm_thr := by decide
theorem m_17 : pm_mL 17 = 2 := rfl
theorem r_17 : pm_ret 17 = 0 := rfl
theorem i_17_0 : Jvm.ClassFile.decode (pm_bytes 17) 0 = .ok (.iload_n 1, 1) := by decide +kernel
theorem i_17_1 : Jvm.ClassFile.decode (pm_bytes 17) 1 = .ok (.ifCond .lt (14), 3) := by decide +kernel
theorem i_17_4 : Jvm.ClassFile.decode (pm_bytes 17) 4 = .ok (.iload_n 1, 1) := by decide +kernel
theorem i_17_5 : Jvm.ClassFile.decode (pm_bytes 17) 5 = .ok (.aload_n 0, 1) := by decide +kernel
theorem i_17_6 : Jvm.ClassFile.decode (pm_bytes 17) 6 = .ok (.getfield 12, 3) := by decide +kernel
theorem i_17_9 : Jvm.ClassFile.decode (pm_bytes 17) 9 = .ok (.getfield 126, 3) := by decide +kernel
theorem i_17_12 : Jvm.ClassFile.decode (pm_bytes 17) 12 = .ok (.if_icmp .lt (13), 3) := by decide +kernel
theorem i_17_15 : Jvm.ClassFile.decode (pm_bytes 17) 15 = .ok (.new 101, 3) := by decide +kernel
theorem i_17_18 : Jvm.ClassFile.decode (pm_bytes 17) 18 = .ok (.dup, 1) := by decide +kernel
theorem i_17_25 : Jvm.ClassFile.decode (pm_bytes 17) 25 = .ok (.return_, 1) := by decide +kernel
theorem f_18_12 : (pm_own 18, 12, 0, 0) ∈ pm_fld := f0_12
theorem f_18_126 : (pm_own 18, 126, 1, 6) ∈ pm_fld := f0_126
theorem t_18_49 : (pm_own 18, 49, 1) ∈ pm_thr := by decide
theorem m_18 : pm_mL 18 = 1 := rfl
theorem r_18 : pm_ret 18 = 0 := rfl
theorem i_18_0 : Jvm.ClassFile.decode (pm_bytes 18) 0 = .ok (.aload_n 0, 1) := by decide +kernel
theorem i_18_1 : Jvm.ClassFile.decode (pm_bytes 18) 1 = .ok (.getfield 12, 3) := by decide +kernel
theorem i_18_4 : Jvm.ClassFile.decode (pm_bytes 18) 4 = .ok (.getfield 126, 3) := by decide +kernel
theorem i_18_7 : Jvm.ClassFile.decode (pm_bytes 18) 7 = .ok (.sipush (2000), 3) := by decide +kernel
theorem i_18_10 : Jvm.ClassFile.decode (pm_bytes 18) 10 = .ok (.if_icmp .ne (13), 3) := by decide +kernel
theorem i_18_13 : Jvm.ClassFile.decode (pm_bytes 18) 13 = .ok (.new 49, 3) := by decide +kernel
theorem i_18_16 : Jvm.ClassFile.decode (pm_bytes 18) 16 = .ok (.dup, 1) := by decide +kernel
theorem i_18_23 : Jvm.ClassFile.decode (pm_bytes 18) 23 = .ok (.return_, 1) := by decide +kernel
theorem f_19_12 : (pm_own 19, 12, 0, 0) ∈ pm_fld := f0_12
theorem f_19_19 : (pm_own 19, 19, 0, 1) ∈ pm_fld := f0_19
theorem f_19_41 : (pm_own 19, 41, 0, 4) ∈ pm_fld := f0_41
theorem f_19_83 : (pm_own 19, 83, 0, 5) ∈ pm_fld := f0_83
theorem k_19_67 : (pm_own 19, 67, 14, 1, (none : Option Nat)) ∈ pm_call := k0_67
theorem k_19_133 : (pm_own 19, 133, 32, 1, (some 2 : Option Nat)) ∈ pm_call := k0_133
theorem k_19_136 : (pm_own 19, 136, 28, 1, (some 1 : Option Nat)) ∈ pm_call := k0_136
theorem k_19_139 : (pm_own 19, 139, 33, 4, (some 2 : Option Nat)) ∈ pm_call := k0_139
theorem k_19_143 : (pm_own 19, 143, 29, 2, (some 1 : Option Nat)) ∈ pm_call := k0_143
theorem k_19_146 : (pm_own 19, 146, 30, 2, (some 1 : Option Nat)) ∈ pm_call := k0_146
theorem m_19 : pm_mL 19 = 3 := rfl
theorem r_19 : pm_ret 19 = 0 := rfl
theorem i_19_0 : Jvm.ClassFile.decode (pm_bytes 19) 0 = .ok (.aload_n 0, 1) := by decide +kernel
theorem i_19_1 : Jvm.ClassFile.decode (pm_bytes 19) 1 = .ok (.getfield 19, 3) := by decide +kernel
theorem i_19_4 : Jvm.ClassFile.decode (pm_bytes 19) 4 = .ok (.invokevirtual 133, 3) := by decide +kernel
theorem i_19_7 : Jvm.ClassFile.decode (pm_bytes 19) 7 = .ok (.aload_n 0, 1) := by decide +kernel
theorem i_19_8 : Jvm.ClassFile.decode (pm_bytes 19) 8 = .ok (.getfield 12, 3) := by decide +kernel
theorem i_19_11 : Jvm.ClassFile.decode (pm_bytes 19) 11 = .ok (.invokevirtual 136, 3) := by decide +kernel
theorem i_19_14 : Jvm.ClassFile.decode (pm_bytes 19) 14 = .ok (.iconst 0, 1) := by decide +kernel
theorem i_19_15 : Jvm.ClassFile.decode (pm_bytes 19) 15 = .ok (.istore_n 2, 1) := by decide +kernel
theorem i_19_16 : Jvm.ClassFile.decode (pm_bytes 19) 16 = .ok (.iload_n 2, 1) := by decide +kernel
theorem i_19_17 : Jvm.ClassFile.decode (pm_bytes 19) 17 = .ok (.aload_n 0, 1) := by decide +kernel
theorem i_19_18 : Jvm.ClassFile.decode (pm_bytes 19) 18 = .ok (.getfield 83, 3) := by decide +kernel
theorem i_19_21 : Jvm.ClassFile.decode (pm_bytes 19) 21 = .ok (.if_icmp .ge (45), 3) := by decide +kernel
theorem i_19_24 : Jvm.ClassFile.decode (pm_bytes 19) 24 = .ok (.iload_n 2, 1) := by decide +kernel
theorem i_19_25 : Jvm.ClassFile.decode (pm_bytes 19) 25 = .ok (.iload_n 1, 1) := by decide +kernel
theorem i_19_26 : Jvm.ClassFile.decode (pm_bytes 19) 26 = .ok (.if_icmp .eq (34), 3) := by decide +kernel
theorem i_19_29 : Jvm.ClassFile.decode (pm_bytes 19) 29 = .ok (.aload_n 0, 1) := by decide +kernel
theorem i_19_30 : Jvm.ClassFile.decode (pm_bytes 19) 30 = .ok (.getfield 19, 3) := by decide +kernel
theorem i_19_33 : Jvm.ClassFile.decode (pm_bytes 19) 33 = .ok (.aload_n 0, 1) := by decide +kernel
theorem i_19_34 : Jvm.ClassFile.decode (pm_bytes 19) 34 = .ok (.getfield 41, 3) := by decide +kernel
theorem i_19_37 : Jvm.ClassFile.decode (pm_bytes 19) 37 = .ok (.iload_n 2, 1) := by decide +kernel
theorem i_19_38 : Jvm.ClassFile.decode (pm_bytes 19) 38 = .ok (.iaload, 1) := by decide +kernel
theorem i_19_39 : Jvm.ClassFile.decode (pm_bytes 19) 39 = .ok (.invokestatic 67, 3) := by decide +kernel
theorem i_19_42 : Jvm.ClassFile.decode (pm_bytes 19) 42 = .ok (.iconst 0, 1) := by decide +kernel
theorem i_19_43 : Jvm.ClassFile.decode (pm_bytes 19) 43 = .ok (.iconst 0, 1) := by decide +kernel
theorem i_19_44 : Jvm.ClassFile.decode (pm_bytes 19) 44 = .ok (.invokevirtual 139, 3) := by decide +kernel
theorem i_19_47 : Jvm.ClassFile.decode (pm_bytes 19) 47 = .ok (.aload_n 0, 1) := by decide +kernel
theorem i_19_48 : Jvm.ClassFile.decode (pm_bytes 19) 48 = .ok (.getfield 12, 3) := by decide +kernel
theorem i_19_51 : Jvm.ClassFile.decode (pm_bytes 19) 51 = .ok (.aload_n 0, 1) := by decide +kernel
theorem i_19_52 : Jvm.ClassFile.decode (pm_bytes 19) 52 = .ok (.getfield 41, 3) := by decide +kernel
theorem i_19_55 : Jvm.ClassFile.decode (pm_bytes 19) 55 = .ok (.iload_n 2, 1) := by decide +kernel
theorem i_19_56 : Jvm.ClassFile.decode (pm_bytes 19) 56 = .ok (.iaload, 1) := by decide +kernel
theorem i_19_57 : Jvm.ClassFile.decode (pm_bytes 19) 57 = .ok (.invokevirtual 143, 3) := by decide +kernel
theorem i_19_60 : Jvm.ClassFile.decode (pm_bytes 19) 60 = .ok (.iinc 2 (1), 3) := by decide +kernel
theorem i_19_63 : Jvm.ClassFile.decode (pm_bytes 19) 63 = .ok (.goto (-47), 3) := by decide +kernel
theorem i_19_66 : Jvm.ClassFile.decode (pm_bytes 19) 66 = .ok (.aload_n 0, 1) := by decide +kernel
theorem i_19_67 : Jvm.ClassFile.decode (pm_bytes 19) 67 = .ok (.getfield 12, 3) := by decide +kernel
theorem i_19_70 : Jvm.ClassFile.decode (pm_bytes 19) 70 = .ok (.aload_n 0, 1) := by decide +kernel
theorem i_19_71 : Jvm.ClassFile.decode (pm_bytes 19) 71 = .ok (.getfield 19, 3) := by decide +kernel
theorem i_19_74 : Jvm.ClassFile.decode (pm_bytes 19) 74 = .ok (.invokevirtual 146, 3) := by decide +kernel
theorem i_19_77 : Jvm.ClassFile.decode (pm_bytes 19) 77 = .ok (.return_, 1) := by decide +kernel
end
