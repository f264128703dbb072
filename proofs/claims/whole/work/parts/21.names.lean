/-! NAMES, laid by wip/whole/gen/names.py out of the listing -/
def pz_cn (i : Nat) : String := ["GateBench", "GateBench$Circuit", "GateBench$Clauses", "GateBench$Checker", "GateBench$Search", "GateBench$Trail", "GateBenchModel", "GateBenchLaw"].getD i ""
def pz_xn (i : Nat) : String := ["java/util/NoSuchElementException", "java/lang/IllegalStateException", "java/lang/IllegalArgumentException"].getD i ""
def pz_fs (i : Nat) : List (String × String × Bool) := [[("circuit", "LGateBench$Circuit;", true), ("clauses", "LGateBench$Clauses;", true), ("checker", "LGateBench$Checker;", true), ("search", "LGateBench$Search;", true), ("list", "[I", true), ("listLength", "I", false), ("unproved", "I", false)],
  [("chooser", "[I", true), ("ifTrue", "[I", true), ("ifFalse", "[I", true), ("truth", "[Z", true), ("matters", "[Z", true), ("formulaOfInput", "[I", true), ("formulas", "I", false), ("inputs", "I", false)],
  [("literals", "[I", true), ("start", "[I", true), ("total", "I", false), ("used", "I", false)],
  [("clauses", "LGateBench$Clauses;", true), ("failsInStep", "[I", true), ("step", "I", false), ("trusted", "I", false), ("refuted", "Z", false)],
  [("circuit", "LGateBench$Circuit;", true), ("clauses", "LGateBench$Clauses;", true), ("checker", "LGateBench$Checker;", true), ("trail", "LGateBench$Trail;", true), ("firstWatch", "[I", true), ("nextWatch", "[I", true), ("involved", "[Z", true), ("hints", "[I", true), ("hintCount", "I", false), ("followed", "I", false)],
  [("holds", "[Z", true), ("forcedBy", "[I", true), ("order", "[I", true), ("levelStart", "[I", true), ("length", "I", false), ("levels", "I", false)],
  [("thrown", "I", false), ("formulas", "I", false), ("inputs", "I", false), ("listed", "I", false), ("kind", "[I", true), ("first", "[I", true), ("second", "[I", true), ("third", "[I", true), ("list", "[I", true), ("is", "[Z", true), ("kept", "[Z", true), ("values", "[Z", true), ("rest", "[I", true)]].getD i []
def pz_nf (i : Nat) : Nat := (pz_fs i).length
def pz_u (i : Nat) : u_T := fun j => (pz_cn i, ((pz_fs i).getD j ("", "", false)).1, ((pz_fs i).getD j ("", "", false)).2.1, ((pz_fs i).getD j ("", "", false)).2.2)
def pz_cl : List vw_C := [(pz_cn 0, pz_u 0, pz_nf 0), (pz_cn 1, pz_u 1, pz_nf 1), (pz_cn 2, pz_u 2, pz_nf 2), (pz_cn 3, pz_u 3, pz_nf 3), (pz_cn 4, pz_u 4, pz_nf 4), (pz_cn 5, pz_u 5, pz_nf 5), (pz_cn 6, pz_u 6, pz_nf 6)]
def pz_ys : List MethodName := [⟨"GateBench", "input", "()I"⟩,
  ⟨"GateBench", "not", "(I)I"⟩,
  ⟨"GateBench", "join", "(III)I"⟩,
  ⟨"GateBench", "choose", "(III)I"⟩,
  ⟨"GateBench", "want", "(I)I"⟩,
  ⟨"GateBench", "clear", "()I"⟩,
  ⟨"GateBench", "can", "()Z"⟩,
  ⟨"GateBench", "shorten", "()I"⟩,
  ⟨"GateBench", "wanted", "(I)I"⟩,
  ⟨"GateBench", "same", "(II)Z"⟩,
  ⟨"GateBench", "put", "(IZ)Z"⟩,
  ⟨"GateBench", "value", "(I)Z"⟩,
  ⟨"GateBench", "doubts", "()I"⟩,
  ⟨"GateBench", "count", "(I)I"⟩,
  ⟨"GateBench", "literal", "(I)I"⟩,
  ⟨"GateBench", "opposite", "(I)I"⟩,
  ⟨"GateBench", "formulaOf", "(I)I"⟩,
  ⟨"GateBench", "requireFormula", "(I)V"⟩,
  ⟨"GateBench", "requireRoom", "()V"⟩,
  ⟨"GateBench", "askForListWithout", "(I)V"⟩,
  ⟨"GateBench", "askForDifference", "(II)V"⟩,
  ⟨"GateBench", "findInputs", "()Z"⟩,
  ⟨"GateBench", "takeInputsFound", "()V"⟩,
  ⟨"GateBench", "dropWanted", "(I)V"⟩,
  ⟨"GateBench$Circuit", "addInput", "()I"⟩,
  ⟨"GateBench$Circuit", "addGate", "(III)I"⟩,
  ⟨"GateBench$Circuit", "evaluate", "(I)Z"⟩,
  ⟨"GateBench$Circuit", "isTrue", "(I)Z"⟩,
  ⟨"GateBench$Circuit", "forgetAims", "()V"⟩,
  ⟨"GateBench$Circuit", "aimAt", "(I)V"⟩,
  ⟨"GateBench$Circuit", "describeAims", "(LGateBench$Clauses;)V"⟩,
  ⟨"GateBench$Circuit", "describeGate", "(ILGateBench$Clauses;)V"⟩,
  ⟨"GateBench$Clauses", "removeAll", "()V"⟩,
  ⟨"GateBench$Clauses", "add", "(III)V"⟩,
  ⟨"GateBench$Clauses", "append", "(I)V"⟩,
  ⟨"GateBench$Clauses", "close", "()I"⟩,
  ⟨"GateBench$Clauses", "sizeOf", "(I)I"⟩,
  ⟨"GateBench$Checker", "begin", "()V"⟩,
  ⟨"GateBench$Checker", "hasRefutation", "()Z"⟩,
  ⟨"GateBench$Checker", "goThrough", "(I[II)V"⟩,
  ⟨"GateBench$Checker", "follows", "(I[II)Z"⟩,
  ⟨"GateBench$Checker", "literalLeft", "(I)I"⟩,
  ⟨"GateBench$Search", "makesTrue", "(I)Z"⟩,
  ⟨"GateBench$Search", "findsLeast", "()Z"⟩,
  ⟨"GateBench$Search", "startAnew", "()V"⟩,
  ⟨"GateBench$Search", "takeUpClauses", "()I"⟩,
  ⟨"GateBench$Search", "tryInputs", "()I"⟩,
  ⟨"GateBench$Search", "followAll", "()I"⟩,
  ⟨"GateBench$Search", "leaveFailing", "(I)I"⟩,
  ⟨"GateBench$Search", "placeToWatch", "(I)I"⟩,
  ⟨"GateBench$Search", "moveWatch", "(II)V"⟩,
  ⟨"GateBench$Search", "unlink", "(III)V"⟩,
  ⟨"GateBench$Search", "watchBoth", "(I)V"⟩,
  ⟨"GateBench$Search", "learn", "(I)I"⟩,
  ⟨"GateBench$Search", "involve", "(I)V"⟩,
  ⟨"GateBench$Search", "collectHints", "(I)V"⟩,
  ⟨"GateBench$Search", "applyLesson", "(I)V"⟩,
  ⟨"GateBench$Trail", "restart", "()V"⟩,
  ⟨"GateBench$Trail", "isOpen", "(I)Z"⟩,
  ⟨"GateBench$Trail", "attempt", "(I)V"⟩,
  ⟨"GateBench$Trail", "hold", "(II)V"⟩,
  ⟨"GateBench$Trail", "goBackTo", "(I)V"⟩,
  ⟨"GateBench$Trail", "cutTo", "(I)V"⟩,
  ⟨"GateBenchModel", "thrown", "()I"⟩,
  ⟨"GateBenchModel", "refuse", "(IZ)Z"⟩,
  ⟨"GateBenchModel", "none", "(I)Z"⟩,
  ⟨"GateBenchModel", "make", "(IIII)I"⟩,
  ⟨"GateBenchModel", "input", "()I"⟩,
  ⟨"GateBenchModel", "not", "(I)I"⟩,
  ⟨"GateBenchModel", "join", "(III)I"⟩,
  ⟨"GateBenchModel", "choose", "(III)I"⟩,
  ⟨"GateBenchModel", "want", "(I)I"⟩,
  ⟨"GateBenchModel", "clear", "()I"⟩,
  ⟨"GateBenchModel", "workOut", "()V"⟩,
  ⟨"GateBenchModel", "advance", "()Z"⟩,
  ⟨"GateBenchModel", "begin", "()V"⟩,
  ⟨"GateBenchModel", "back", "()V"⟩,
  ⟨"GateBenchModel", "some", "([II)Z"⟩,
  ⟨"GateBenchModel", "can", "()Z"⟩,
  ⟨"GateBenchModel", "shorten", "()I"⟩,
  ⟨"GateBenchModel", "wanted", "(I)I"⟩,
  ⟨"GateBenchModel", "same", "(II)Z"⟩,
  ⟨"GateBenchModel", "put", "(IZ)Z"⟩,
  ⟨"GateBenchModel", "value", "(I)Z"⟩,
  ⟨"GateBenchModel", "doubts", "()I"⟩,
  ⟨"GateBenchModel", "count", "(I)I"⟩,
  ⟨"GateBenchLaw", "input", "(LGateBench;[J)I"⟩,
  ⟨"GateBenchLaw", "not", "(LGateBench;I[J)I"⟩,
  ⟨"GateBenchLaw", "join", "(LGateBench;III[J)I"⟩,
  ⟨"GateBenchLaw", "choose", "(LGateBench;III[J)I"⟩,
  ⟨"GateBenchLaw", "want", "(LGateBench;I[J)I"⟩,
  ⟨"GateBenchLaw", "wanted", "(LGateBench;I[J)I"⟩,
  ⟨"GateBenchLaw", "same", "(LGateBench;II[J)I"⟩,
  ⟨"GateBenchLaw", "put", "(LGateBench;IZ[J)I"⟩,
  ⟨"GateBenchLaw", "value", "(LGateBench;I[J)I"⟩,
  ⟨"GateBenchLaw", "law", "([I)Z"⟩]
def pz_y (k : Nat) : MethodName := pz_ys.getD k ⟨"", "", ""⟩
def pz_rt (r : Nat) : Option FieldType := if r = 0 then none else if r = 1 then some .int else some .boolean
def pz_hl : List (Nat × List (Nat × Nat × Nat × Nat)) := [(86, [(0, 8, 11, 13)]), (87, [(0, 9, 12, 19), (0, 9, 15, 13)]), (88, [(0, 12, 15, 19), (0, 12, 19, 25), (0, 12, 23, 13)]), (89, [(0, 12, 15, 19), (0, 12, 19, 13)]), (90, [(0, 9, 12, 19), (0, 9, 15, 13)]), (91, [(0, 9, 12, 19)]), (92, [(0, 17, 20, 19)]), (93, [(0, 17, 20, 19)]), (94, [(0, 16, 19, 19)])]
def pz_hs (k : Nat) : List (Nat × Nat × Nat × Nat) := (pz_hl.lookup k).getD []
def pz_cw (k : Nat) : Cond := if (pz_hs k).isEmpty then .code (pz_y k) (pm_bytes k) (pm_mL k) (pz_rt (pm_ret k)) else .codeWith (pz_y k) (pm_bytes k) (pm_mL k) (pz_rt (pm_ret k)) (pz_hs k)
theorem pz_cl7 {ci : Nat} {q : vw_C} (h : pz_cl[ci]? = some q) : ci < 7 := (List.getElem?_eq_some_iff.mp h).1
theorem pz_clq : ∀ ci, ci < 7 → pz_cl[ci]? = some (pz_cn ci, pz_u ci, pz_nf ci) := by
  intro ci h
  rcases ci with _ | _ | _ | _ | _ | _ | _ | ci
  · rfl
  · rfl
  · rfl
  · rfl
  · rfl
  · rfl
  · rfl
  · omega
def pz_ft (ci : Nat) : Nat → FieldType := fun k => (parseFieldDescriptor (pz_u ci k).2.2.1).getD .int
theorem pz_ftok0 : ∀ ci, ci < 7 → ∀ k, k < pz_nf ci → parseFieldDescriptor (pz_u ci k).2.2.1 = some (pz_ft ci k) := by decide +kernel
theorem pz_nms0 : ∀ ci, ci < 7 → ∀ a, a < pz_nf ci → ∀ b, b < pz_nf ci → a ≠ b → (pz_u ci a).2.1 ≠ (pz_u ci b).2.1 := by decide +kernel
theorem pz_ftok {ci : Nat} {q : vw_C} (h : pz_cl[ci]? = some q) : ∀ k, k < pz_nf ci → parseFieldDescriptor (pz_u ci k).2.2.1 = some (pz_ft ci k) := pz_ftok0 ci (pz_cl7 h)
theorem pz_nms {ci : Nat} {q : vw_C} (h : pz_cl[ci]? = some q) : ∀ a, a < pz_nf ci → ∀ b, b < pz_nf ci → a ≠ b → (pz_u ci a).2.1 ≠ (pz_u ci b).2.1 := pz_nms0 ci (pz_cl7 h)
/-- the fields of a cell, against its kind -/
def pz_fchk (ci : Nat) (fs : List (Nat ⊕ Bool)) : Bool := decide (pz_nf ci = fs.length) && (List.range fs.length).all (fun j => match fs[j]? with
  | some (.inr b) => ((pz_u ci j).2.2.2 == false) && decide (parseFieldDescriptor (pz_u ci j).2.2.1 = some (if b then .boolean else .int))
  | _ => true)
theorem pz_cok0 {L c ci : Nat} {fs : List (Nat ⊕ Bool)} (h : (pm_cells L)[c]? = some (.inr (ci, fs))) : ci < 7 ∧ pz_fchk ci fs = true := by
  have hc := pz_lt h
  rcases c with _ | _ | _ | _ | _ | _ | c
  · cases h; decide +kernel
  · cases h; decide +kernel
  · cases h; decide +kernel
  · cases h; decide +kernel
  · cases h; decide +kernel
  · cases h; decide +kernel
  · rcases c with _ | _ | _ | _ | _ | _ | _ | _ | _ | _ | _ | _ | _ | _ | _ | _ | _ | _ | c
    iterate 18 cases h
    rcases c with _ | c
    · cases h; decide +kernel
    · rcases c with _ | _ | _ | _ | _ | _ | _ | _ | _ | _ | _ | c
      iterate 11 cases h
      omega
theorem pz_cok {L c ci : Nat} {fs : List (Nat ⊕ Bool)} (h : (pm_cells L)[c]? = some (.inr (ci, fs))) : pz_cl[ci]? = some (pz_cn ci, pz_u ci, pz_nf ci) ∧ pz_nf ci = fs.length ∧ ∀ j b, fs[j]? = some (.inr b) → (pz_u ci j).2.2.2 = false ∧ parseFieldDescriptor (pz_u ci j).2.2.1 = some (if b then .boolean else .int) := by
  obtain ⟨h1, h2⟩ := pz_cok0 h
  unfold pz_fchk at h2
  rw [Bool.and_eq_true, decide_eq_true_eq, List.all_eq_true] at h2
  refine ⟨pz_clq ci h1, h2.1, fun j b hj => ?_⟩
  have h3 := h2.2 j (List.mem_range.mpr (List.getElem?_eq_some_iff.mp hj).1)
  rw [hj] at h3
  dsimp only at h3
  rw [Bool.and_eq_true, beq_iff_eq, decide_eq_true_eq] at h3
  exact h3
theorem pz_len {L c kd n : Nat} (hL : L ≤ 100000) (h : (pm_cells L)[c]? = some (.inl (kd, n))) : n ≤ 100000 := by
  have hc := pz_lt h
  rcases c with _ | _ | _ | _ | _ | _ | c
  iterate 6 cases h
  rcases c with _ | _ | _ | _ | _ | _ | _ | _ | _ | _ | _ | _ | _ | _ | _ | _ | _ | _ | c
  iterate 18 (cases h; omega)
  rcases c with _ | c
  · cases h
  rcases c with _ | _ | _ | _ | _ | _ | _ | _ | _ | _ | _ | c
  iterate 10 (cases h; omega)
  · cases h; exact hL
  · omega
/-- what the tables say: fields, calls, layouts, code, exceptions -/
def pz_fl (U : State) (q : Nat × Nat × Nat × Nat) : Prop :=
  (Cond.fieldLink (pz_cn q.1) q.2.1 (pz_cn q.2.2.1) (pz_u q.2.2.1 q.2.2.2).2.1 (pz_u q.2.2.1 q.2.2.2).2.2.1).before #[] U = true ∨
  ∃ h : String, (Cond.fieldLinkNest (pz_cn q.1) q.2.1 (pz_cn q.2.2.1) (pz_u q.2.2.1 q.2.2.2).2.1 (pz_u q.2.2.1 q.2.2.2).2.2.1 h).before #[] U = true
def pz_ca (U : State) (q : Nat × Nat × Nat × Nat × Option Nat) : Prop :=
  ((Cond.methodLink (pz_cn q.1) q.2.1 (pz_y q.2.2.1)).before #[] U = true ∨ ∃ h : String, (Cond.methodLinkNest (pz_cn q.1) q.2.1 (pz_y q.2.2.1) h).before #[] U = true) ∧
  match q.2.2.2.2 with
  | none => (Cond.static (pz_y q.2.2.1)).before #[] U = true
  | some ci => (Cond.instanceMethod (pz_y q.2.2.1)).before #[] U = true ∧ (Cond.selects (pz_cn ci) (pz_y q.2.2.1) (pz_y q.2.2.1)).before #[] U = true
def pz_co (U : State) (k : Nat) : Prop := (pz_cw k).before #[] U = true ∧ (Cond.initialized (pz_cn (pm_own k))).before #[] U = true
/-- the words that stay under warmer tables -/
def pz_ok : Cond → Bool
  | .fieldLinkNest .. => true
  | .methodLinkNest .. => true
  | .stringRef .. => true
  | .castable .. => true
  | .declares _ => true
  | w => goodWord w
def pz_T (U : State) : Prop := ∀ w ∈ lw_tbl, pz_ok w = true → w.before #[] U = true
theorem pz_T.moved {s U : State} (hW : s.WarmedH U.vm) (h : pz_T s) : pz_T U := by
  intro w hw hk
  have h1 := h w hw hk
  cases w with
  | fieldLinkNest a i b n d hh => exact va_Nw.warmF hW h1
  | methodLinkNest a i x hh => exact va_Nw.warmM hW h1
  | stringRef a i t => exact Cond.stringRef_warmed hW h1
  | castable a b => exact va_Nw.warmC hW h1
  | declares x => exact va_Nw.warmD hW h1
  | _ => exact word_at hW (good_of_word hk) h1
theorem pz_T.same {s U : State} (hv : s.vm = U.vm) (h : pz_T s) : pz_T U := h.moved (by rw [← hv]; exact State.WarmedH.refl s)
theorem pz_lay0 : ∀ ci, ci < 7 → ∀ w ∈ u_ws (pz_cn ci) (pz_u ci) (pz_nf ci), w ∈ tables_1 ∧ pz_ok w = true := by decide +kernel
theorem pz_lays {U : State} (h : pz_T U) (ci : Nat) {q : vw_C} (hq : pz_cl[ci]? = some q) (args : Array Value) : ∀ w ∈ u_ws (pz_cn ci) (pz_u ci) (pz_nf ci), w.before args U = true := by
  intro w hw
  obtain ⟨h1, h2⟩ := pz_lay0 ci (pz_cl7 hq) w hw
  have h3 := h w (List.mem_append_right _ h1) h2
  have h4 : w.onTables = true := by
    obtain ⟨k, -, rfl⟩ := List.mem_map.mp hw
    unfold u_lay
    split <;> rfl
  exact va_tabs h4 rfl h3
