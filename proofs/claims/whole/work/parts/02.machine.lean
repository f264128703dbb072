/-! THE PURE MACHINE: what the methods do, over a memory of whole numbers. Cells have fixed numbers; memory: cell, place, number. -/
abbrev pm_V : Type := Int ⊕ (Nat ⊕ Int)
abbrev pm_M : Type := Nat → Int → Int
abbrev pm_L : Type := List (Option pm_V)
/-- a cell: an array (kind 0 int, 1 boolean, 2 long; its length), or an object (its kind; its fields: a cell, or a number: is it a boolean) -/
abbrev pm_D : Type := (Nat × Nat) ⊕ (Nat × List (Nat ⊕ Bool))
/-- method, pc, locals, operand stack, memory -/
abbrev pm_C : Type := Nat × Nat × pm_L × List pm_V × pm_M
/-- an answer: it returned (with what), or threw (which kind) -/
abbrev pm_A : Type := Option pm_V ⊕ Nat
abbrev pm_P : Type := pm_A → pm_M → Prop
def pm_R (x : Int) : Prop := -2147483648 ≤ x ∧ x ≤ 2147483647
def pm_set (M : pm_M) (c : Nat) (j x : Int) : pm_M := fun a b => if a = c ∧ b = j then x else M a b
/-- the opposite: one flipped bit -/
def pm_op (x : Int) : Int := if x % 2 = 0 then x + 1 else x - 1
def pm_cmp (c : Jvm.ClassFile.Cond) (x y : Int) : Prop := match c with
  | .eq => x = y
  | .ne => ¬ x = y
  | .lt => x < y
  | .ge => y ≤ x
  | .gt => y < x
  | .le => x ≤ y
def pm_bit (x : Int) : Prop := x = 0 ∨ x = 1
def pm_is1 (v : pm_V) : Bool := match v with
  | .inr (.inr _) => false
  | _ => true
def pm_ent (n : Nat) (as : List pm_V) : pm_L := as.map some ++ List.replicate (n - as.length) none
def pm_arr (D : List pm_D) (c kd : Nat) (i : Int) : Prop := ∃ n : Nat, D[c]? = some (.inl (kd, n)) ∧ 0 ≤ i ∧ i < n
/-! THE TABLES of the pure machine, laid by wip/whole/gen/tables.py out of the listing. Kinds of objects: 0 GateBench, 1 GateBench$Circuit, 2 GateBench$Clauses, 3 GateBench$Checker, 4 GateBench$Search, 5 GateBench$Trail, 6 GateBenchModel, 7 GateBenchLaw. -/
def pm_cells (L : Nat) : List pm_D := [.inr (0, [.inl 1, .inl 2, .inl 3, .inl 4, .inl 6, .inr false, .inr false]),
  .inr (1, [.inl 7, .inl 8, .inl 9, .inl 10, .inl 11, .inl 12, .inr false, .inr false]),
  .inr (2, [.inl 13, .inl 14, .inr false, .inr false]),
  .inr (3, [.inl 2, .inl 15, .inr false, .inr false, .inr true]),
  .inr (4, [.inl 1, .inl 2, .inl 3, .inl 5, .inl 16, .inl 17, .inl 18, .inl 19, .inr false, .inr false]),
  .inr (5, [.inl 20, .inl 21, .inl 22, .inl 23, .inr false, .inr false]),
  .inl (0, 20),
  .inl (0, 2000),
  .inl (0, 2000),
  .inl (0, 2000),
  .inl (1, 2000),
  .inl (1, 2000),
  .inl (0, 12),
  .inl (0, 85212),
  .inl (0, 16117),
  .inl (0, 4000),
  .inl (0, 4000),
  .inl (0, 32232),
  .inl (1, 2000),
  .inl (0, 2001),
  .inl (1, 4000),
  .inl (0, 4000),
  .inl (0, 2000),
  .inl (0, 12),
  .inr (6, [.inr false, .inr false, .inr false, .inr false, .inl 25, .inl 26, .inl 27, .inl 28, .inl 29, .inl 30, .inl 31, .inl 32, .inl 33]),
  .inl (0, 2000),
  .inl (0, 2000),
  .inl (0, 2000),
  .inl (0, 2000),
  .inl (0, 20),
  .inl (1, 12),
  .inl (1, 12),
  .inl (1, 2000),
  .inl (0, 20),
  .inl (2, 1),
  .inl (0, L)]
def pm_codes : List (ByteArray × Nat × Nat × Nat × Nat) := [
  (prog_1_method_2_code, 0, 1, 1, 8),
  (prog_1_method_3_code, 0, 2, 1, 8),
  (prog_1_method_4_code, 0, 4, 1, 8),
  (prog_1_method_5_code, 0, 4, 1, 8),
  (prog_1_method_6_code, 0, 2, 1, 8),
  (prog_1_method_7_code, 0, 2, 1, 0),
  (prog_1_method_8_code, 0, 2, 2, 7),
  (prog_1_method_9_code, 0, 3, 1, 7),
  (prog_1_method_10_code, 0, 2, 1, 7),
  (prog_1_method_11_code, 0, 4, 2, 8),
  (prog_1_method_12_code, 0, 5, 2, 7),
  (prog_1_method_13_code, 0, 2, 2, 8),
  (prog_1_method_14_code, 0, 1, 1, 0),
  (prog_1_method_15_code, 0, 2, 1, 0),
  (prog_1_method_16_code, 0, 1, 1, 0),
  (prog_1_method_17_code, 0, 1, 1, 0),
  (prog_1_method_18_code, 0, 1, 1, 0),
  (prog_1_method_19_code, 0, 2, 0, 7),
  (prog_1_method_20_code, 0, 1, 0, 7),
  (prog_1_method_21_code, 0, 3, 0, 4),
  (prog_1_method_22_code, 0, 3, 0, 4),
  (prog_1_method_23_code, 0, 2, 2, 6),
  (prog_1_method_24_code, 0, 3, 0, 2),
  (prog_1_method_25_code, 0, 3, 0, 0),
  (prog_3_method_2_code, 1, 1, 1, 1),
  (prog_3_method_3_code, 1, 5, 1, 0),
  (prog_3_method_4_code, 1, 3, 2, 2),
  (prog_3_method_5_code, 1, 2, 2, 1),
  (prog_3_method_6_code, 1, 2, 0, 0),
  (prog_3_method_7_code, 1, 2, 0, 0),
  (prog_3_method_8_code, 1, 3, 0, 3),
  (prog_3_method_9_code, 1, 7, 0, 2),
  (prog_4_method_2_code, 2, 1, 0, 0),
  (prog_4_method_3_code, 2, 4, 0, 1),
  (prog_4_method_4_code, 2, 2, 0, 0),
  (prog_4_method_5_code, 2, 2, 1, 0),
  (prog_4_method_6_code, 2, 2, 1, 0),
  (prog_2_method_2_code, 3, 1, 0, 0),
  (prog_2_method_3_code, 3, 1, 2, 0),
  (prog_2_method_4_code, 3, 4, 0, 2),
  (prog_2_method_5_code, 3, 6, 2, 1),
  (prog_2_method_6_code, 3, 4, 1, 0),
  (prog_5_method_2_code, 4, 2, 2, 1),
  (prog_5_method_3_code, 4, 4, 2, 5),
  (prog_5_method_4_code, 4, 2, 0, 2),
  (prog_5_method_5_code, 4, 5, 1, 3),
  (prog_5_method_6_code, 4, 4, 1, 4),
  (prog_5_method_7_code, 4, 2, 1, 3),
  (prog_5_method_8_code, 4, 9, 1, 2),
  (prog_5_method_9_code, 4, 3, 1, 1),
  (prog_5_method_10_code, 4, 5, 0, 0),
  (prog_5_method_11_code, 4, 4, 0, 0),
  (prog_5_method_12_code, 4, 5, 0, 0),
  (prog_5_method_13_code, 4, 4, 1, 3),
  (prog_5_method_14_code, 4, 3, 0, 1),
  (prog_5_method_15_code, 4, 4, 0, 1),
  (prog_5_method_16_code, 4, 3, 0, 2),
  (prog_6_method_2_code, 5, 1, 0, 1),
  (prog_6_method_3_code, 5, 2, 2, 1),
  (prog_6_method_4_code, 5, 2, 0, 1),
  (prog_6_method_5_code, 5, 3, 0, 0),
  (prog_6_method_6_code, 5, 3, 0, 1),
  (prog_6_method_7_code, 5, 3, 0, 0),
  (prog_8_method_2_code, 6, 1, 1, 0),
  (prog_8_method_3_code, 6, 3, 2, 0),
  (prog_8_method_4_code, 6, 2, 2, 0),
  (prog_8_method_5_code, 6, 5, 1, 0),
  (prog_8_method_6_code, 6, 1, 1, 1),
  (prog_8_method_7_code, 6, 2, 1, 1),
  (prog_8_method_8_code, 6, 4, 1, 1),
  (prog_8_method_9_code, 6, 4, 1, 1),
  (prog_8_method_10_code, 6, 2, 1, 1),
  (prog_8_method_11_code, 6, 2, 1, 0),
  (prog_8_method_12_code, 6, 2, 0, 0),
  (prog_8_method_13_code, 6, 2, 2, 0),
  (prog_8_method_14_code, 6, 2, 0, 0),
  (prog_8_method_15_code, 6, 2, 0, 0),
  (prog_8_method_16_code, 6, 6, 2, 1),
  (prog_8_method_17_code, 6, 1, 2, 2),
  (prog_8_method_18_code, 6, 4, 1, 2),
  (prog_8_method_19_code, 6, 2, 1, 1),
  (prog_8_method_20_code, 6, 4, 2, 1),
  (prog_8_method_21_code, 6, 4, 2, 1),
  (prog_8_method_22_code, 6, 2, 2, 1),
  (prog_8_method_23_code, 6, 1, 1, 0),
  (prog_8_method_24_code, 6, 2, 1, 0),
  (method_3_code, 7, 3, 1, 9),
  (method_4_code, 7, 4, 1, 9),
  (method_5_code, 7, 6, 1, 9),
  (method_6_code, 7, 6, 1, 9),
  (method_7_code, 7, 4, 1, 9),
  (method_8_code, 7, 4, 1, 8),
  (method_9_code, 7, 5, 1, 9),
  (method_10_code, 7, 5, 1, 8),
  (method_11_code, 7, 4, 1, 9),
  (code, 7, 7, 2, 10)]
def pm_row (k : Nat) : ByteArray × Nat × Nat × Nat × Nat := pm_codes.getD k (code, 0, 0, 0, 0)
abbrev pm_bytes (k : Nat) : ByteArray := (pm_row k).1
abbrev pm_own (k : Nat) : Nat := (pm_row k).2.1
abbrev pm_mL (k : Nat) : Nat := (pm_row k).2.2.1
abbrev pm_ret (k : Nat) : Nat := (pm_row k).2.2.2.1
abbrev pm_rank (k : Nat) : Nat := (pm_row k).2.2.2.2
/-- kind of the code's owner, index: kind of the object, number of the field -/
def pm_fld : List (Nat × Nat × Nat × Nat) := [(0, 12, 0, 0), (0, 19, 0, 1), (0, 28, 0, 2), (0, 37, 0, 3), (0, 41, 0, 4), (0, 45, 1, 7), (0, 83, 0, 5), (0, 112, 1, 5), (0, 115, 1, 3), (0, 123, 0, 6), (0, 126, 1, 6), (1, 9, 1, 0), (1, 15, 1, 1), (1, 18, 1, 2), (1, 21, 1, 3), (1, 25, 1, 4), (1, 28, 1, 5), (1, 31, 1, 6), (1, 35, 1, 7), (2, 10, 2, 0), (2, 16, 2, 1), (2, 19, 2, 2), (2, 23, 2, 3), (3, 9, 3, 1), (3, 15, 3, 0), (3, 19, 2, 2), (3, 25, 3, 3), (3, 28, 3, 4), (3, 40, 3, 2), (3, 43, 2, 1), (3, 46, 2, 0), (4, 12, 4, 3), (4, 18, 4, 4), (4, 22, 4, 5), (4, 25, 4, 6), (4, 29, 4, 7), (4, 32, 4, 0), (4, 36, 4, 1), (4, 40, 4, 2), (4, 44, 5, 0), (4, 73, 4, 9), (4, 77, 1, 6), (4, 85, 2, 2), (4, 88, 2, 0), (4, 91, 2, 1), (4, 111, 1, 7), (4, 114, 1, 5), (4, 120, 5, 4), (4, 123, 5, 2), (4, 145, 5, 1), (4, 157, 4, 8), (5, 9, 5, 0), (5, 15, 5, 1), (5, 19, 5, 2), (5, 22, 5, 3), (5, 29, 5, 5), (5, 37, 5, 4), (6, 7, 6, 0), (6, 13, 6, 1), (6, 16, 6, 2), (6, 19, 6, 3), (6, 22, 6, 4), (6, 26, 6, 5), (6, 29, 6, 6), (6, 32, 6, 7), (6, 35, 6, 8), (6, 38, 6, 9), (6, 42, 6, 10), (6, 45, 6, 11), (6, 48, 6, 12)]
/-- kind of the code's owner, index: the method, how many arguments, the receiver's kind -/
def pm_call : List (Nat × Nat × Nat × Nat × Option Nat) := [(0, 56, 18, 1, some 0), (0, 59, 24, 1, some 1), (0, 63, 17, 2, some 0), (0, 67, 14, 1, none), (0, 71, 25, 4, some 1), (0, 80, 15, 1, none), (0, 88, 19, 2, some 0), (0, 91, 21, 1, some 0), (0, 95, 22, 1, some 0), (0, 98, 23, 2, some 0), (0, 106, 20, 3, some 0), (0, 119, 26, 2, some 1), (0, 133, 32, 1, some 2), (0, 136, 28, 1, some 1), (0, 139, 33, 4, some 2), (0, 143, 29, 2, some 1), (0, 146, 30, 2, some 1), (0, 149, 37, 1, some 3), (0, 152, 43, 1, some 4), (0, 155, 38, 1, some 3), (0, 158, 42, 2, some 4), (1, 38, 25, 4, some 1), (1, 42, 27, 2, some 1), (1, 46, 16, 1, none), (1, 50, 29, 2, some 1), (1, 54, 31, 3, some 1), (1, 58, 14, 1, none), (1, 61, 15, 1, none), (1, 64, 33, 4, some 2), (2, 26, 15, 1, none), (2, 30, 34, 2, some 2), (2, 34, 35, 1, some 2), (3, 32, 40, 4, some 3), (3, 36, 36, 2, some 2), (3, 49, 41, 2, some 3), (3, 52, 15, 1, none), (4, 47, 14, 1, none), (4, 51, 45, 1, some 4), (4, 55, 46, 1, some 4), (4, 58, 53, 2, some 4), (4, 61, 36, 2, some 2), (4, 66, 56, 2, some 4), (4, 70, 57, 1, some 5), (4, 82, 44, 1, some 4), (4, 94, 52, 2, some 4), (4, 97, 15, 1, none), (4, 100, 58, 2, some 5), (4, 104, 60, 3, some 5), (4, 108, 47, 1, some 4), (4, 117, 59, 2, some 5), (4, 126, 48, 2, some 4), (4, 129, 49, 2, some 4), (4, 132, 50, 3, some 4), (4, 135, 51, 4, some 4), (4, 139, 54, 2, some 4), (4, 142, 16, 1, none), (4, 148, 34, 2, some 2), (4, 151, 35, 1, some 2), (4, 154, 55, 2, some 4), (4, 160, 39, 4, some 3), (4, 166, 61, 2, some 5), (5, 25, 62, 2, some 5), (5, 33, 15, 1, none), (5, 40, 60, 3, some 5), (6, 51, 64, 3, some 6), (6, 55, 66, 5, some 6), (6, 59, 65, 2, some 6), (6, 63, 75, 1, some 6), (6, 66, 73, 1, some 6), (6, 69, 74, 1, some 6), (6, 73, 76, 1, some 6), (6, 76, 77, 3, some 6), (7, 7, 0, 1, some 0), (7, 15, 1, 2, some 0), (7, 21, 2, 4, some 0), (7, 27, 3, 4, some 0), (7, 30, 4, 2, some 0), (7, 33, 8, 2, some 0), (7, 36, 9, 3, some 0), (7, 40, 10, 3, some 0), (7, 44, 11, 2, some 0), (7, 52, 86, 2, none), (7, 57, 67, 1, some 6), (7, 58, 63, 1, some 6), (7, 61, 87, 3, none), (7, 64, 68, 2, some 6), (7, 65, 88, 5, none), (7, 68, 69, 4, some 6), (7, 69, 89, 5, none), (7, 71, 70, 4, some 6), (7, 72, 90, 3, none), (7, 74, 71, 2, some 6), (7, 75, 5, 1, some 0), (7, 78, 72, 1, some 6), (7, 79, 6, 1, some 0), (7, 83, 78, 1, some 6), (7, 84, 7, 1, some 0), (7, 87, 79, 1, some 6), (7, 88, 91, 3, none), (7, 90, 80, 2, some 6), (7, 91, 92, 4, none), (7, 94, 81, 3, some 6), (7, 95, 93, 4, none), (7, 98, 82, 3, some 6), (7, 99, 94, 3, none), (7, 101, 83, 2, some 6), (7, 102, 12, 1, some 0), (7, 105, 84, 1, some 6), (7, 106, 13, 2, some 0), (7, 109, 85, 2, some 6)]
/-- method, pc: index of the exception, its kind, index of its text, index of its constructor -/
def pm_thr : List (Nat × Nat × Nat × Nat × Nat × Nat) := [(0, 12, 49, 1, 51, 53), (2, 24, 75, 2, 77, 79), (4, 14, 49, 1, 86, 53), (8, 12, 101, 0, 103, 105), (10, 15, 101, 0, 110, 105), (17, 15, 101, 0, 129, 105), (18, 13, 49, 1, 131, 53)]
/-- method, pc of the call, kind of what was thrown: handler, pc behind its store, the place of the store -/
def pm_hnd : List ((Nat × Nat × Nat) × (Nat × Nat × Nat)) := [((86, 3, 1), (11, 12, 2)), ((87, 4, 0), (12, 13, 3)), ((87, 4, 1), (15, 16, 3)), ((88, 7, 0), (15, 17, 5)), ((88, 7, 2), (19, 21, 5)), ((88, 7, 1), (23, 25, 5)), ((89, 7, 0), (15, 17, 5)), ((89, 7, 1), (19, 21, 5)), ((90, 4, 0), (12, 13, 3)), ((90, 4, 1), (15, 16, 3)), ((91, 4, 0), (12, 13, 3)), ((92, 5, 0), (20, 22, 4)), ((93, 5, 0), (20, 22, 4)), ((94, 4, 0), (19, 20, 3))]
/-! ONE STEP: what must hold ahead of an instruction, if Z must hold behind it. -/
def pm_wt (st : List pm_V) : Nat := (st.map fun v => if pm_is1 v then 1 else 2).sum
def pm_recv (D : List pm_D) (q : Option Nat) (as : List pm_V) : Prop := match q with
  | none => True
  | some ci => ∃ (c : Nat) (r : List pm_V) (fs : List (Nat ⊕ Bool)), as = .inr (.inl c) :: r ∧ D[c]? = some (.inr (ci, fs))
/-- behind a call -/
def pm_back (Z : pm_C → pm_P → Prop) (k pc : Nat) (ls : pm_L) (rest : List pm_V) (Q : pm_P) : pm_P := fun r M =>
  match r with
  | .inl v => Z (k, pc + 3, ls, v.toList ++ rest, M) Q
  | .inr kd => match pm_hnd.lookup (k, pc, kd) with
    | none => k < 86 ∧ Q (.inr kd) M
    | some h => Z (k, h.2.1, ls.set h.2.2 none, [], M) Q
def pm_inv (L : Nat) (Z : pm_C → pm_P → Prop) (stat : Bool) (index k pc : Nat) (ls : pm_L) (st : List pm_V) (M : pm_M) (Q : pm_P) : Prop :=
  ∃ (k' n : Nat) (q : Option Nat) (as rest : List pm_V), ((pm_own k, index, k', n, q) ∈ pm_call ∧ pm_rank k' < pm_rank k) ∧ q.isNone = stat ∧ st = as.reverse ++ rest ∧ as.length = n ∧ as.all pm_is1 = true ∧ pm_recv (pm_cells L) q as ∧ pm_wt rest ≤ 8 ∧
    Z (k', 0, pm_ent (pm_mL k') as, [], M) (pm_back Z k pc ls rest Q)
def pm_stp (L : Nat) (Z : pm_C → pm_P → Prop) (i : Jvm.ClassFile.Instr) (len k pc : Nat) (ls : pm_L) (st : List pm_V) (M : pm_M) (Q : pm_P) : Prop :=
  match i with
  | .iconst x => -1 ≤ x ∧ x ≤ 5 ∧ Z (k, pc + 1, ls, .inl x :: st, M) Q
  | .bipush x => -128 ≤ x ∧ x ≤ 127 ∧ Z (k, pc + 2, ls, .inl x :: st, M) Q
  | .sipush x => -32768 ≤ x ∧ x ≤ 32767 ∧ Z (k, pc + 3, ls, .inl x :: st, M) Q
  | .lconst x => Z (k, pc + 1, ls, .inr (.inr (x.val : Int)) :: st, M) Q
  | .iload_n n => ∃ x, ls[n.val]? = some (some (.inl x)) ∧ Z (k, pc + 1, ls, .inl x :: st, M) Q
  | .iload n => ∃ x, ls[n]? = some (some (.inl x)) ∧ Z (k, pc + 2, ls, .inl x :: st, M) Q
  | .aload_n n => ∃ x, ls[n.val]? = some (some (.inr (.inl x))) ∧ Z (k, pc + 1, ls, .inr (.inl x) :: st, M) Q
  | .aload n => ∃ x, ls[n]? = some (some (.inr (.inl x))) ∧ Z (k, pc + 2, ls, .inr (.inl x) :: st, M) Q
  | .istore_n n => ∃ x r, st = .inl x :: r ∧ n.val < ls.length ∧ Z (k, pc + 1, ls.set n.val (some (.inl x)), r, M) Q
  | .istore n => ∃ x r, st = .inl x :: r ∧ n < ls.length ∧ Z (k, pc + 2, ls.set n (some (.inl x)), r, M) Q
  | .iinc n d => ∃ x, ls[n]? = some (some (.inl x)) ∧ -128 ≤ d ∧ d ≤ 127 ∧ pm_R (x + d) ∧ Z (k, pc + 3, ls.set n (some (.inl (x + d))), st, M) Q
  | .iadd => ∃ x y r, st = .inl y :: .inl x :: r ∧ pm_R (x + y) ∧ Z (k, pc + 1, ls, .inl (x + y) :: r, M) Q
  | .isub => ∃ x y r, st = .inl y :: .inl x :: r ∧ pm_R (x - y) ∧ Z (k, pc + 1, ls, .inl (x - y) :: r, M) Q
  | .imul => ∃ x y r, st = .inl y :: .inl x :: r ∧ pm_R (x * y) ∧ Z (k, pc + 1, ls, .inl (x * y) :: r, M) Q
  | .iand => ∃ x y r, st = .inl y :: .inl x :: r ∧ (y = 1 ∨ y = 15) ∧ Z (k, pc + 1, ls, .inl (x % (y + 1)) :: r, M) Q
  | .ixor => ∃ x r, st = .inl 1 :: .inl x :: r ∧ Z (k, pc + 1, ls, .inl (pm_op x) :: r, M) Q
  | .ishr => ∃ x r, st = .inl 1 :: .inl x :: r ∧ Z (k, pc + 1, ls, .inl (x / 2) :: r, M) Q
  | .i2l => ∃ x r, st = .inl x :: r ∧ Z (k, pc + 1, ls, .inr (.inr x) :: r, M) Q
  | .lcmp => ∃ x y r, st = .inr (.inr y) :: .inr (.inr x) :: r ∧ Z (k, pc + 1, ls, .inl (if x < y then -1 else if x = y then 0 else 1) :: r, M) Q
  | .getfield index => ∃ (ci j c : Nat) (r : List pm_V) (fs : List (Nat ⊕ Bool)) (f : Nat ⊕ Bool), (pm_own k, index, ci, j) ∈ pm_fld ∧ st = .inr (.inl c) :: r ∧ (pm_cells L)[c]? = some (.inr (ci, fs)) ∧ fs[j]? = some f ∧
      Z (k, pc + 3, ls, (match f with | .inl q => .inr (.inl q) | .inr _ => .inl (M c j)) :: r, M) Q
  | .putfield index => ∃ (ci j c : Nat) (x : Int) (r : List pm_V) (fs : List (Nat ⊕ Bool)) (b : Bool), (pm_own k, index, ci, j) ∈ pm_fld ∧ st = .inl x :: .inr (.inl c) :: r ∧ (pm_cells L)[c]? = some (.inr (ci, fs)) ∧ fs[j]? = some (.inr b) ∧ (b = true → pm_bit x) ∧
      Z (k, pc + 3, ls, r, pm_set M c j x) Q
  | .iaload => ∃ i c r, st = .inl i :: .inr (.inl c) :: r ∧ pm_arr (pm_cells L) c 0 i ∧ Z (k, pc + 1, ls, .inl (M c i) :: r, M) Q
  | .baload => ∃ i c r, st = .inl i :: .inr (.inl c) :: r ∧ pm_arr (pm_cells L) c 1 i ∧ Z (k, pc + 1, ls, .inl (M c i) :: r, M) Q
  | .laload => ∃ i c r, st = .inl i :: .inr (.inl c) :: r ∧ pm_arr (pm_cells L) c 2 i ∧ Z (k, pc + 1, ls, .inr (.inr (M c i)) :: r, M) Q
  | .iastore => ∃ x i c r, st = .inl x :: .inl i :: .inr (.inl c) :: r ∧ pm_arr (pm_cells L) c 0 i ∧ c ≠ 35 ∧ Z (k, pc + 1, ls, r, pm_set M c i x) Q
  | .bastore => ∃ x i c r, st = .inl x :: .inl i :: .inr (.inl c) :: r ∧ pm_arr (pm_cells L) c 1 i ∧ pm_bit x ∧ Z (k, pc + 1, ls, r, pm_set M c i x) Q
  | .lastore => ∃ x i c r, st = .inr (.inr x) :: .inl i :: .inr (.inl c) :: r ∧ pm_arr (pm_cells L) c 2 i ∧ Z (k, pc + 1, ls, r, pm_set M c i x) Q
  | .arraylength => ∃ (c : Nat) (r : List pm_V) (n : Nat), st = .inr (.inl c) :: r ∧ (pm_cells L)[c]? = some (.inl (0, n)) ∧ n ≤ 100000 ∧ Z (k, pc + 1, ls, .inl n :: r, M) Q
  | .dup => ∃ v r, st = v :: r ∧ pm_is1 v = true ∧ Z (k, pc + 1, ls, v :: v :: r, M) Q
  | .dup_x1 => ∃ v w r, st = v :: w :: r ∧ pm_is1 v = true ∧ pm_is1 w = true ∧ Z (k, pc + 1, ls, v :: w :: v :: r, M) Q
  | .pop => ∃ v r, st = v :: r ∧ pm_is1 v = true ∧ Z (k, pc + 1, ls, r, M) Q
  | .ifCond c off => ∃ (x : Int) (r : List pm_V) (t : Nat), st = .inl x :: r ∧ (pc : Int) + off = t ∧ (pm_cmp c x 0 → Z (k, t, ls, r, M) Q) ∧ (¬ pm_cmp c x 0 → Z (k, pc + 3, ls, r, M) Q)
  | .if_icmp c off => ∃ (x y : Int) (r : List pm_V) (t : Nat), st = .inl y :: .inl x :: r ∧ (pc : Int) + off = t ∧ (pm_cmp c x y → Z (k, t, ls, r, M) Q) ∧ (¬ pm_cmp c x y → Z (k, pc + 3, ls, r, M) Q)
  | .goto off => ∃ t : Nat, (pc : Int) + off = t ∧ Z (k, t, ls, st, M) Q
  | .tableswitch d lo hi offs => ∃ (x : Int) (r : List pm_V), st = .inl x :: r ∧ ((x < lo ∨ hi < x) → ∃ t : Nat, (pc : Int) + d = t ∧ Z (k, t, ls, r, M) Q) ∧
      (¬ x < lo → ¬ hi < x → ∃ (off : Int) (t : Nat), offs[(x - lo).toNat]? = some off ∧ (pc : Int) + off = t ∧ Z (k, t, ls, r, M) Q)
  | .invokevirtual index => pm_inv L Z false index k pc ls st M Q
  | .invokestatic index => pm_inv L Z true index k pc ls st M Q
  | .ireturn => ∃ x, st = [.inl x] ∧ (pm_ret k = 1 ∨ pm_ret k = 2 ∧ pm_bit x) ∧ Q (.inl (some (.inl x))) M
  | .return_ => st = [] ∧ pm_ret k = 0 ∧ Q (.inl none) M
  | .new index => ∃ kd sx ic, (k, pc, index, kd, sx, ic) ∈ pm_thr ∧ st = [] ∧ 1 ≤ M 99 0 ∧ Q (.inr kd) (pm_set M 99 0 (M 99 0 - 1))
  | _ => False
/-- how long an instruction is -/
def pm_ln (i : Jvm.ClassFile.Instr) (len : Nat) : Prop := match i with
  | .tableswitch .. => True
  | .bipush _ => len = 2
  | .iload _ => len = 2
  | .aload _ => len = 2
  | .istore _ => len = 2
  | .sipush _ => len = 3
  | .iinc _ _ => len = 3
  | .getfield _ => len = 3
  | .putfield _ => len = 3
  | .ifCond _ _ => len = 3
  | .if_icmp _ _ => len = 3
  | .goto _ => len = 3
  | .invokevirtual _ => len = 3
  | .invokestatic _ => len = 3
  | .new _ => len = 3
  | _ => len = 1
def pm_step (L : Nat) (Z : pm_C → pm_P → Prop) (c : pm_C) (Q : pm_P) : Prop :=
  ∃ i len, Jvm.ClassFile.decode (pm_bytes c.1) c.2.1 = .ok (i, len) ∧ pm_ln i len ∧ pm_stp L Z i len c.1 c.2.1 c.2.2.1 c.2.2.2.1 c.2.2.2.2 Q
def pm_mono (Z : pm_C → pm_P → Prop) : Prop := ∀ (c : pm_C) (Q Q' : pm_P), (∀ r M, Q r M → Q' r M) → Z c Q → Z c Q'
/-- the machine comes from c to an end with Q: the least Z that the steps allow -/
def pm_X (L : Nat) (c : pm_C) (Q : pm_P) : Prop := ∀ Z : pm_C → pm_P → Prop, pm_mono Z → (∀ c Q, pm_step L Z c Q → Z c Q) → Z c Q
theorem pm_back_mono {Y Z : pm_C → pm_P → Prop} (h : ∀ c Q, Y c Q → Z c Q) {k pc : Nat} {ls : pm_L} {rest : List pm_V} {Q : pm_P} (r : pm_A) (M : pm_M) (hb : pm_back Y k pc ls rest Q r M) : pm_back Z k pc ls rest Q r M := by
  unfold pm_back at hb ⊢
  cases r with
  | inl v => exact h _ _ hb
  | inr kd =>
    revert hb
    dsimp only
    cases pm_hnd.lookup (k, pc, kd) with
    | none => exact fun hb => hb
    | some q => exact fun hb => h _ _ hb
theorem pm_inv_mono {L : Nat} {Y Z : pm_C → pm_P → Prop} (h : ∀ c Q, Y c Q → Z c Q) (hz : pm_mono Z) {b : Bool} {index k pc : Nat} {ls : pm_L} {st : List pm_V} {M : pm_M} {Q : pm_P} (hi : pm_inv L Y b index k pc ls st M Q) : pm_inv L Z b index k pc ls st M Q := by
  obtain ⟨k', n, q, as, rest, h1, h2, h3, h4, h5, h6, h7, h8⟩ := hi
  exact ⟨k', n, q, as, rest, h1, h2, h3, h4, h5, h6, h7, hz _ _ _ (fun r M hb => pm_back_mono h r M hb) (h _ _ h8)⟩
theorem pm_stp_mono {L : Nat} {Y Z : pm_C → pm_P → Prop} (h : ∀ c Q, Y c Q → Z c Q) (hz : pm_mono Z) {i : Jvm.ClassFile.Instr} {len k pc : Nat} {ls : pm_L} {st : List pm_V} {M : pm_M} {Q : pm_P} (hi : pm_stp L Y i len k pc ls st M Q) : pm_stp L Z i len k pc ls st M Q := by
  cases i with
  | iconst x => exact ⟨hi.1, hi.2.1, h _ _ hi.2.2⟩
  | bipush x => exact ⟨hi.1, hi.2.1, h _ _ hi.2.2⟩
  | sipush x => exact ⟨hi.1, hi.2.1, h _ _ hi.2.2⟩
  | lconst x => exact h _ _ hi
  | iload_n n => obtain ⟨x, h1, h2⟩ := hi; exact ⟨x, h1, h _ _ h2⟩
  | iload n => obtain ⟨x, h1, h2⟩ := hi; exact ⟨x, h1, h _ _ h2⟩
  | aload_n n => obtain ⟨x, h1, h2⟩ := hi; exact ⟨x, h1, h _ _ h2⟩
  | aload n => obtain ⟨x, h1, h2⟩ := hi; exact ⟨x, h1, h _ _ h2⟩
  | istore_n n => obtain ⟨x, r, h1, h2, h3⟩ := hi; exact ⟨x, r, h1, h2, h _ _ h3⟩
  | istore n => obtain ⟨x, r, h1, h2, h3⟩ := hi; exact ⟨x, r, h1, h2, h _ _ h3⟩
  | iinc n d => obtain ⟨x, h1, h2, h3, h4, h5⟩ := hi; exact ⟨x, h1, h2, h3, h4, h _ _ h5⟩
  | iadd => obtain ⟨x, y, r, h1, h2, h3⟩ := hi; exact ⟨x, y, r, h1, h2, h _ _ h3⟩
  | isub => obtain ⟨x, y, r, h1, h2, h3⟩ := hi; exact ⟨x, y, r, h1, h2, h _ _ h3⟩
  | imul => obtain ⟨x, y, r, h1, h2, h3⟩ := hi; exact ⟨x, y, r, h1, h2, h _ _ h3⟩
  | iand => obtain ⟨x, y, r, h1, h2, h3⟩ := hi; exact ⟨x, y, r, h1, h2, h _ _ h3⟩
  | ixor => obtain ⟨x, r, h1, h2⟩ := hi; exact ⟨x, r, h1, h _ _ h2⟩
  | ishr => obtain ⟨x, r, h1, h2⟩ := hi; exact ⟨x, r, h1, h _ _ h2⟩
  | i2l => obtain ⟨x, r, h1, h2⟩ := hi; exact ⟨x, r, h1, h _ _ h2⟩
  | lcmp => obtain ⟨x, y, r, h1, h2⟩ := hi; exact ⟨x, y, r, h1, h _ _ h2⟩
  | getfield n => obtain ⟨ci, j, c, r, fs, f, h1, h2, h3, h4, h5⟩ := hi; exact ⟨ci, j, c, r, fs, f, h1, h2, h3, h4, h _ _ h5⟩
  | putfield n => obtain ⟨ci, j, c, x, r, fs, b, h1, h2, h3, h4, h5, h6⟩ := hi; exact ⟨ci, j, c, x, r, fs, b, h1, h2, h3, h4, h5, h _ _ h6⟩
  | iaload => obtain ⟨i, c, r, h1, h2, h3⟩ := hi; exact ⟨i, c, r, h1, h2, h _ _ h3⟩
  | baload => obtain ⟨i, c, r, h1, h2, h3⟩ := hi; exact ⟨i, c, r, h1, h2, h _ _ h3⟩
  | laload => obtain ⟨i, c, r, h1, h2, h3⟩ := hi; exact ⟨i, c, r, h1, h2, h _ _ h3⟩
  | iastore => obtain ⟨x, i, c, r, h1, h2, h3, h4⟩ := hi; exact ⟨x, i, c, r, h1, h2, h3, h _ _ h4⟩
  | bastore => obtain ⟨x, i, c, r, h1, h2, h3, h4⟩ := hi; exact ⟨x, i, c, r, h1, h2, h3, h _ _ h4⟩
  | lastore => obtain ⟨x, i, c, r, h1, h2, h3⟩ := hi; exact ⟨x, i, c, r, h1, h2, h _ _ h3⟩
  | arraylength => obtain ⟨c, r, n, h1, h2, h3, h4⟩ := hi; exact ⟨c, r, n, h1, h2, h3, h _ _ h4⟩
  | dup => obtain ⟨v, r, h1, h2, h3⟩ := hi; exact ⟨v, r, h1, h2, h _ _ h3⟩
  | dup_x1 => obtain ⟨v, w, r, h1, h2, h3, h4⟩ := hi; exact ⟨v, w, r, h1, h2, h3, h _ _ h4⟩
  | pop => obtain ⟨v, r, h1, h2, h3⟩ := hi; exact ⟨v, r, h1, h2, h _ _ h3⟩
  | ifCond c off => obtain ⟨x, r, t, h1, h2, h3, h4⟩ := hi; exact ⟨x, r, t, h1, h2, fun z => h _ _ (h3 z), fun z => h _ _ (h4 z)⟩
  | if_icmp c off => obtain ⟨x, y, r, t, h1, h2, h3, h4⟩ := hi; exact ⟨x, y, r, t, h1, h2, fun z => h _ _ (h3 z), fun z => h _ _ (h4 z)⟩
  | goto off => obtain ⟨t, h1, h2⟩ := hi; exact ⟨t, h1, h _ _ h2⟩
  | tableswitch d lo hi offs =>
    obtain ⟨x, r, h1, h2, h3⟩ := hi
    refine ⟨x, r, h1, fun z => ?_, fun z1 z2 => ?_⟩
    · obtain ⟨t, a, b⟩ := h2 z; exact ⟨t, a, h _ _ b⟩
    · obtain ⟨off, t, a, b, c⟩ := h3 z1 z2; exact ⟨off, t, a, b, h _ _ c⟩
  | invokevirtual n => exact pm_inv_mono h hz hi
  | invokestatic n => exact pm_inv_mono h hz hi
  | ireturn => exact hi
  | return_ => exact hi
  | new n => exact hi
  | _ => exact hi.elim
theorem pm_in {L : Nat} {c : pm_C} {Q : pm_P} (h : pm_step L (pm_X L) c Q) : pm_X L c Q := by
  intro Z hz hs
  obtain ⟨i, len, hd, hl, h⟩ := h
  exact hs c Q ⟨i, len, hd, hl, pm_stp_mono (fun c Q hx => hx Z hz hs) hz h⟩
theorem pm_up {L : Nat} {c : pm_C} {Q Q' : pm_P} (h : pm_X L c Q) (hq : ∀ r M, Q r M → Q' r M) : pm_X L c Q' := fun Z hz hs => hz c Q Q' hq (h Z hz hs)
