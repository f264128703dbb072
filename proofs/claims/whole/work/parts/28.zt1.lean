def pz_up : List String := ["java/lang/RuntimeException", "java/lang/Exception"]
def pz_tx (sx : Nat) : String := ([(51, "there are 12 inputs"), (131, "there are 2,000 formulas"), (129, "there is no such formula"), (77, "there is no such op"), (86, "20 formulas are wanted"), (103, "the list has no such place"), (110, "there is no such input")].lookup sx).getD ""
/-- where an exception is made and thrown -/
theorem pz_site : ∀ q ∈ pm_thr, (decode (pm_bytes q.1) (q.2.1 + 3) = .ok (.dup, 1) ∧ decode (pm_bytes q.1) (q.2.1 + 4) = .ok (.ldc q.2.2.2.2.1, 2) ∧ decode (pm_bytes q.1) (q.2.1 + 6) = .ok (.invokespecial q.2.2.2.2.2, 3) ∧ decode (pm_bytes q.1) (q.2.1 + 9) = .ok (.athrow, 1)) ∧ (pm_own q.1 = 0 ∧ pz_hs q.1 = [] ∧ 7 ≤ pm_rank q.1) := by decide +kernel
theorem pz_xw : ∀ q ∈ pm_thr, (Cond.classLink "GateBench" q.2.2.1 (pz_xn q.2.2.2.1) ∈ tables_1 ∧ Cond.initialized (pz_xn q.2.2.2.1) ∈ tables_1 ∧ Cond.instantiable (pz_xn q.2.2.2.1) 6 ∈ tables_1 ∧ Cond.stringRef "GateBench" q.2.2.2.2.1 (pz_tx q.2.2.2.2.1) ∈ tables_1) ∧ Bundle.fit (pz_xn q.2.2.2.1) = true := by decide +kernel
/-- the first link of the chain of constructors: its index, its bytes -/
def pz_ix (kd : Nat) : Nat := [13, 7, 7].getD kd 0
def pz_by (kd : Nat) : ByteArray := [prog_15_method_4_code, prog_11_method_2_code, prog_10_method_2_code].getD kd code
def pz_oa (ic : Nat) (X : String) (ix : Nat) (b0 : ByteArray) : List Cond :=
  Bundle.throwableAtoms ++ Bundle.throwableSAtoms ++ (Bundle.passSAtoms X "java/lang/RuntimeException" ix b0 ++ Bundle.chainSAtoms "java/lang/RuntimeException" ["java/lang/Exception"]) ++
  [.methodLink "GateBench" ic (Bundle.initS X), .instantiable X 6, .castable X X, .selects X Bundle.tFill0 Bundle.tFill0, .selects X Bundle.tFill Bundle.tFill,
   .lays X Bundle.tN "cause" "Ljava/lang/Throwable;", .lays X Bundle.tN "stackTrace" Bundle.steD, .lays X Bundle.tN "suppressedExceptions" Bundle.listD, .lays X Bundle.tN "detailMessage" "Ljava/lang/String;",
   .isRef (.static Bundle.tN "UNASSIGNED_STACK" Bundle.steD), .isRef (.static Bundle.tN "SUPPRESSED_SENTINEL" Bundle.listD),
   .fieldLink Bundle.tN 198 Bundle.tN "backtrace" "Ljava/lang/Object;", .lays Bundle.tN Bundle.tN "backtrace" "Ljava/lang/Object;", .lays X Bundle.tN "backtrace" "Ljava/lang/Object;"]
theorem pz_by0 : ∀ kd, kd < 3 → decode (pz_by kd) 0 = .ok (.aload_n 0, 1) ∧ decode (pz_by kd) 1 = .ok (.aload_n 1, 1) ∧ decode (pz_by kd) 2 = .ok (.invokespecial (pz_ix kd), 3) ∧ decode (pz_by kd) 5 = .ok (.return_, 1) := by decide +kernel
theorem pz_kd3 : ∀ q ∈ pm_thr, q.2.2.2.1 < 3 := by decide +kernel
def pz_owc (w : Cond) : Bool := (decide (w ∈ tables_1) && pz_ok w && w.onTables) || decide (w = Cond.laysStatic "java/lang/Throwable" "UNASSIGNED_STACK" "[Ljava/lang/StackTraceElement;") || decide (w = Cond.laysStatic "java/lang/Throwable" "SUPPRESSED_SENTINEL" "Ljava/util/List;") || decide (w = Cond.isRef (.static "java/lang/Throwable" "UNASSIGNED_STACK" "[Ljava/lang/StackTraceElement;")) || decide (w = Cond.isRef (.static "java/lang/Throwable" "SUPPRESSED_SENTINEL" "Ljava/util/List;"))
theorem pz_ow0 : ∀ q ∈ pm_thr, (pz_oa q.2.2.2.2.2 (pz_xn q.2.2.2.1) (pz_ix q.2.2.2.1) (pz_by q.2.2.2.1)).all pz_owc = true := by decide +kernel
theorem pz_own {U : State} {ad : Nat → Nat} (h : pz_T U) (hT : pz_Th ad U U.heap) {q : Nat × Nat × Nat × Nat × Nat × Nat} (hq : q ∈ pm_thr) (args : Array Value) : ∀ w ∈ pz_oa q.2.2.2.2.2 (pz_xn q.2.2.2.1) (pz_ix q.2.2.2.1) (pz_by q.2.2.2.1), w.before args U = true := by
  intro w hw
  have h0 := List.all_eq_true.mp (pz_ow0 q hq) w hw
  unfold pz_owc at h0
  simp only [Bool.or_eq_true, Bool.and_eq_true, decide_eq_true_eq] at h0
  rcases h0 with (((⟨⟨h1, h2⟩, h3⟩ | rfl) | rfl) | rfl) | rfl
  · exact va_tabs h3 rfl (h w (List.mem_append_right _ h1) h2)
  · exact hT.1.lays
  · exact hT.2.lays
  · exact hT.1.ref
  · exact hT.2.ref
theorem pz_keep {s U : State} {n k : Nat} (h : s.sameButNew U [] n k) {a : Addr} {cell : Cell} (hc : s.heap[a]? = some cell) : U.heap[a]? = some cell := by
  obtain ⟨c', h1, h2, h3, h4⟩ := h.2.2.2.2.2 a cell hc
  have h5 : c'.slots = cell.slots := by
    apply Array.ext_getElem?
    intro i
    exact h4 i (fun z => by cases z)
  rw [h1, h2, h5]
theorem pz_99 {L : Nat} {ad : Nat → Nat} {cA : Nat → ClassId} {M : pm_M} {x : Int} : pz_ws L ad cA (pm_set M 99 0 x) = pz_ws L ad cA M := by
  apply List.ext_getElem?
  intro i
  unfold pz_ws
  rw [List.getElem?_mapIdx, List.getElem?_mapIdx]
  cases hd : ((pm_cells L).take 35)[i]? with
  | none => rfl
  | some d =>
    have hi : i < 35 := by
      rw [List.getElem?_take] at hd
      by_cases h : i < 35
      · exact h
      · rw [if_neg h] at hd; cases hd
    show some (ad i, pz_e ad cA (pm_set M 99 0 x) i d) = some (ad i, pz_e ad cA M i d)
    rw [pz_e_eq (pm_set_off i (by omega))]
