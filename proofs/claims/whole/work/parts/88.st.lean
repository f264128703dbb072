/-! THE CLAIM OUT OF ONE WALK OF THE LAW'S BODY. Your part is whole_start (and what it stands on); all else here is the same for every law, but numbers. -/
def R_law : String := "GateBenchLaw"
def zq_P (b : Addr) (xs : List Int32) (args : Array Value) (s : State) : Prop := args = #[.ref b] ∧ s.IntsAt b xs ∧ xs.length ≤ 2048 ∧ (Jvm.Cond.and given_1 narrow_1).before args s = true
def lw_Q (_ : Array Value) (s : State) (o : Outcome) (t : State) : Prop := o = .returned (some (.int 1)) ∧ Framed s o t [] 601024 7293034
def lw_Z (below : List Frame) (a : Array Value) (s : State) : State → Prop := fun t => ∃ o, t.status = .running ∧ Ended t below o ∧ lw_Q a s o t
/-- the law's own end, with 1 on the stack, nothing written that was there before, its room as the claim has it -/
theorem lw_ret {p : Program} {l : Launch} {e : Env} {s : State} {m : MethodId} {below : List Frame} {meth : Method} {c : Code} {b : Nat} (hx : p.tables.exec = Jvm.exec) (hb : c.code = code) (hr : meth.sig.returnType = ret) (hlocks : meth.locks = false) {pc : Nat} {H : Heap} {ls : Array Slot} (hdg : decode code pc = .ok (.ireturn, 1)) : W p l e room_1 s m #[Value.ref b] below meth c H [] 601024 7293034 (lw_Z below #[Value.ref b] s) (F0 m pc ls [.int 1]) := by
  intro T hT X
  obtain ⟨fs, hret, hrun, hended, hW, hframe⟩ := X.leave (v := some (.int 1)) (hlocks := hlocks) (fun h => by rw [hr] at h; cases h)
  have hmeth' : T.vm.method? m = some meth := X.method'
  refine ⟨T.setFrames fs, ?_, .returned (some (.int 1)), hrun, hended, rfl, ⟨_, rfl⟩, hW, hframe⟩
  jvm_step X.here [X.here.top, hx, hb, hdg, hmeth', hr, ret, narrow_b1]
  (try refine ⟨rfl, ?_⟩); (try refine ⟨rfl, ?_⟩)
  first | (intro acts; rw [hret _ acts rfl rfl rfl]) | rw [hret _ _ rfl rfl rfl]
  exact Steps.refl _
/-- what holds at the law's entry: the machine, the code, the tables' words (any of lw_tbl by 'hts w (by decide +kernel)'), the script of L ints xs at the cell b, what the Statement gives of the start (any of its parts by flat_of_before) -/
def lw_At (p : Program) (s : State) (m : MethodId) (meth : Method) (c : Code) (b L : Nat) (xs : Nat → Int32) : Prop :=
  p.tables.exec = Jvm.exec ∧ c.code = code ∧ meth.sig.returnType = ret ∧ c.maxLocals = 7 ∧ s.vm.findClass R_law = some m.cls ∧ (∀ w ∈ lw_tbl, w.before #[Value.ref b] s = true) ∧ va_X b L xs s s.heap ∧ b < s.heap.size ∧ meth.locks = false ∧ (Jvm.Cond.and given_1 narrow_1).before #[Value.ref b] s = true
theorem zl_0 : decode code 0 = .ok (.new 8, 3) := by decide +kernel
theorem zl_3 : decode code 3 = .ok (.dup, 1) := by decide +kernel
theorem zl_4 : decode code 4 = .ok (.invokespecial 48, 3) := by decide +kernel
theorem zl_7 : decode code 7 = .ok (.astore_n 1, 1) := by decide +kernel
theorem zl_8 : decode code 8 = .ok (.new 49, 3) := by decide +kernel
theorem zl_11 : decode code 11 = .ok (.dup, 1) := by decide +kernel
theorem zl_12 : decode code 12 = .ok (.invokespecial 51, 3) := by decide +kernel
theorem zl_15 : decode code 15 = .ok (.astore_n 2, 1) := by decide +kernel
theorem zl_16 : decode code 16 = .ok (.iconst 1, 1) := by decide +kernel
theorem zl_17 : decode code 17 = .ok (.newarray .long, 2) := by decide +kernel
theorem zl_19 : decode code 19 = .ok (.astore_n 3, 1) := by decide +kernel
set_option maxHeartbeats 4000000 in
set_option maxRecDepth 100000 in
/-- THE LAW, from its entry -/
theorem whole_start {p : Program} {e : Env} {s : State} {m : MethodId} {below : List Frame} {meth : Method} {c : Code} (l : Launch) (hst : l.stackTraces = false) {b L : Nat} {xs : Nat → Int32} (hL : L ≤ 2048) (htab : c.exceptionTable.toList = []) (C0 : lw_At p s m meth c b L xs) : W p l e room_1 s m #[Value.ref b] below meth c s.heap [] 0 0 (lw_Z below #[Value.ref b] s) (entryFrame m ([Value.ref b] : List Value).toArray 7) := by
  obtain ⟨hx, hb, hr, hml, hown, hts, hX, hbl, hlocks, hgv⟩ := id C0
  have hown : s.vm.findClass "GateBenchLaw" = some m.cls := hown
  have hT : pz_T s := zs_T hts
  obtain ⟨D, cA, hK⟩ := zs_K hT
  generalize hAe : (fun q : Nat => s.heap.size ≤ q) = A
  have hA : ∀ q : Nat, s.heap.size ≤ q → A q := fun q h => by rw [← hAe]; exact h
  have hAi : ∀ q : Nat, A q → s.heap.size ≤ q := fun q h => by rw [← hAe] at h; exact h
  have hS : va_S A s.heap s.heap [] := va_S.rf
  have hP : va_P D pz_cl [] s.heap := fun k q h => by simp at h
  have hD : va_D A [] := ⟨fun i j p q h => by simp at h, fun k q h => by simp at h⟩
  have hl := lv_entry ([.ref b]) (n := 7) (Nat.le_of_ble_eq_true rfl)
  rw [lg_entry_eq]
  generalize (lg_sl ([.ref b]) ++ List.replicate (7 - (lg_sl ([.ref b])).length) Slot.unset).toArray = ls at hl ⊢
  have hl : lv_has ls 7 [(0, .ref b)] := hl
  refine va_new (ci := 0) (fs := [.null, .null, .null, .null, .null, .int 0, .int 0]) (own := "GateBenchLaw") (C := pz_cn 0) (T := pz_u 0) (N := pz_nf 0) hx hb (pz_lays hT 0 (pz_clq 0 (by decide)) _) (fun _ h => h) (pz_ft 0) (pz_ftok (pz_clq 0 (by decide))) hown (zk_w hT (w := .classLink "GateBenchLaw" 8 "GateBench") (List.mem_of_getElem? (i := 14) (by decide +kernel)) (by decide +kernel) (by decide +kernel)) (zk_w hT (w := .instantiable "GateBench" 7) (List.mem_of_getElem? (i := 15) (by decide +kernel)) (by decide +kernel) (by decide +kernel)) (zk_w hT (w := .initialized "GateBench") (List.mem_of_getElem? (i := 1) (by decide +kernel)) (by decide +kernel) (by decide +kernel)) hK hP hD hS hA (pz_clq 0 (by decide)) (fun j hj => by have hj : j < 7 := hj; rcases (by omega : j = 0 ∨ j = 1 ∨ j = 2 ∨ j = 3 ∨ j = 4 ∨ j = 5 ∨ j = 6) with rfl | rfl | rfl | rfl | rfl | rfl | rfl <;> rfl) (Nat.le_of_ble_eq_true rfl) (Nat.le_of_ble_eq_true rfl) zl_0 (fun q1 H hP hD hS => ?_)
  have hP : va_P D pz_cl [(q1, .inr (0, [.null, .null, .null, .null, .null, .int 0, .int 0]))] H := hP
  have hD : va_D A [(q1, .inr (0, [.null, .null, .null, .null, .null, .int 0, .int 0]))] := hD
  refine W.widen (k := 1) (n := 7) (Nat.le_of_ble_eq_true rfl) (Nat.le_of_ble_eq_true rfl) ?_
  refine lv_dup hx hb zl_3 rfl ?_
  have hPc := hP.sub (ws' := [(q1, .inr (0, [.null, .null, .null, .null, .null, .int 0, .int 0]))]) [0] rfl
  have hDc := hD.sub (ws' := [(q1, .inr (0, [.null, .null, .null, .null, .null, .int 0, .int 0]))]) [0] (by decide) rfl
  have hFc := va_free (wc := [(q1, .inr (0, [.null, .null, .null, .null, .null, .int 0, .int 0]))]) hD hS hA [0] rfl
  refine va_callv (va_runI (Ts := []) (As := []) (rest := [.ref q1]) ⟨hx, hb, hml, hown, fun _ h => by cases h⟩ (cn_0 l D cA q1 H.size) (cwI 0 (Ts := [.code zy_0 zb_0 1 none]) (zk_one (zk_w hT (w := .code zy_0 zb_0 1 none) (List.mem_of_getElem? (i := 18) (by decide +kernel)) (by decide +kernel) (by decide +kernel))) (zk_good rfl) rfl rfl rfl (zk_w hT (w := .initialized "GateBench") (List.mem_of_getElem? (i := 1) (by decide +kernel)) (by decide +kernel) (by decide +kernel)) (zk_w hT (w := .methodLink "GateBenchLaw" 48 zy_0) (List.mem_of_getElem? (i := 16) (by decide +kernel)) (by decide +kernel) (by decide +kernel)) (zk_w hT (w := .instanceMethod zy_0) (List.mem_of_getElem? (i := 17) (by decide +kernel)) (by decide +kernel) (by decide +kernel)) rfl (by decide +kernel) ⟨(Nat.le_of_ble_eq_true rfl), (Nat.le_of_ble_eq_true rfl)⟩) ⟨fun a U g mk q => by obtain ⟨q0, q1, qT, qP, qK, qD⟩ := q; exact ⟨q0, q1, pz_T.same (s := U) rfl qT, qP, va_K.moved (u := U) (U := U.calling g mk a) (Vm.Alike.refl U.vm) qK, qD⟩, fun U hU hW => ⟨rfl, by rw [hU], pz_T.moved hW hT, by rw [hU]; exact hPc, va_K.moved hW.alike hK, hDc.weaken (fun _ _ _ _ => trivial)⟩⟩ rfl rfl hl.1 rfl (lv_room (Nat.le_of_ble_eq_true rfl)) zl_4 ⟨(Nat.le_of_ble_eq_true rfl), (Nat.le_of_ble_eq_true rfl)⟩) hS (fun q _ h => hFc q h) hFc (fun u t H1 locs ht hvm hw hB hz1 hk1 hS => ?_)
  obtain ⟨q2, q3, q4, q5, q6, q7, q8, q9, q10, q11, q12, q13, q14, q15, q16, q17, q18, q19, q20, q21, q22, q23, q24, rfl⟩ := hw
  obtain ⟨hP1, hD1⟩ := hB
  rw [ht] at hP1
  obtain ⟨hP, hD⟩ := va_join (wr := []) (w1 := [(q1, .inr (0, [.ref q2, .ref q9, .ref q12, .ref q14, .ref q24, .int 0, .int 0])), (q2, .inr (1, [.ref q3, .ref q4, .ref q5, .ref q6, .ref q7, .ref q8, .int 1, .int 0])), (q3, .inl (cA 0, 2000, .inl (upd (fun _ => 0) 0 (-1)))), (q4, .inl (cA 0, 2000, .inl fun _ => 0)), (q5, .inl (cA 0, 2000, .inl fun _ => 0)), (q6, .inl (cA 1, 2000, .inl fun _ => 0)), (q7, .inl (cA 1, 2000, .inl fun _ => 0)), (q8, .inl (cA 0, 12, .inl fun _ => 0)), (q9, .inr (2, [.ref q10, .ref q11, .int 0, .int 0])), (q10, .inl (cA 0, 85212, .inl fun _ => 0)), (q11, .inl (cA 0, 16117, .inl fun _ => 0)), (q12, .inr (3, [.ref q9, .ref q13, .int 0, .int 0, .int 0])), (q13, .inl (cA 0, 4000, .inl fun _ => 0)), (q14, .inr (4, [.ref q2, .ref q9, .ref q12, .ref q15, .ref q20, .ref q21, .ref q22, .ref q23, .int 0, .int 0])), (q15, .inr (5, [.ref q16, .ref q17, .ref q18, .ref q19, .int 0, .int 0])), (q16, .inl (cA 1, 4000, .inl fun _ => 0)), (q17, .inl (cA 0, 4000, .inl fun _ => 0)), (q18, .inl (cA 0, 2000, .inl fun _ => 0)), (q19, .inl (cA 0, 12, .inl fun _ => 0)), (q20, .inl (cA 0, 4000, .inl fun _ => 0)), (q21, .inl (cA 0, 32232, .inl fun _ => 0)), (q22, .inl (cA 1, 2000, .inl fun _ => 0)), (q23, .inl (cA 0, 2001, .inl fun _ => 0)), (q24, .inl (cA 0, 20, .inl fun _ => 0))]) hP hD [0] [] rfl rfl (by decide) (by decide) hk1 hFc hP1 hD1
  generalize H1 = H at hP hS ⊢
  have hP : va_P D pz_cl [(q1, .inr (0, [.ref q2, .ref q9, .ref q12, .ref q14, .ref q24, .int 0, .int 0])), (q2, .inr (1, [.ref q3, .ref q4, .ref q5, .ref q6, .ref q7, .ref q8, .int 1, .int 0])), (q3, .inl (cA 0, 2000, .inl (upd (fun _ => 0) 0 (-1)))), (q4, .inl (cA 0, 2000, .inl fun _ => 0)), (q5, .inl (cA 0, 2000, .inl fun _ => 0)), (q6, .inl (cA 1, 2000, .inl fun _ => 0)), (q7, .inl (cA 1, 2000, .inl fun _ => 0)), (q8, .inl (cA 0, 12, .inl fun _ => 0)), (q9, .inr (2, [.ref q10, .ref q11, .int 0, .int 0])), (q10, .inl (cA 0, 85212, .inl fun _ => 0)), (q11, .inl (cA 0, 16117, .inl fun _ => 0)), (q12, .inr (3, [.ref q9, .ref q13, .int 0, .int 0, .int 0])), (q13, .inl (cA 0, 4000, .inl fun _ => 0)), (q14, .inr (4, [.ref q2, .ref q9, .ref q12, .ref q15, .ref q20, .ref q21, .ref q22, .ref q23, .int 0, .int 0])), (q15, .inr (5, [.ref q16, .ref q17, .ref q18, .ref q19, .int 0, .int 0])), (q16, .inl (cA 1, 4000, .inl fun _ => 0)), (q17, .inl (cA 0, 4000, .inl fun _ => 0)), (q18, .inl (cA 0, 2000, .inl fun _ => 0)), (q19, .inl (cA 0, 12, .inl fun _ => 0)), (q20, .inl (cA 0, 4000, .inl fun _ => 0)), (q21, .inl (cA 0, 32232, .inl fun _ => 0)), (q22, .inl (cA 1, 2000, .inl fun _ => 0)), (q23, .inl (cA 0, 2001, .inl fun _ => 0)), (q24, .inl (cA 0, 20, .inl fun _ => 0))] H := hP
  have hD : va_D A [(q1, .inr (0, [.ref q2, .ref q9, .ref q12, .ref q14, .ref q24, .int 0, .int 0])), (q2, .inr (1, [.ref q3, .ref q4, .ref q5, .ref q6, .ref q7, .ref q8, .int 1, .int 0])), (q3, .inl (cA 0, 2000, .inl (upd (fun _ => 0) 0 (-1)))), (q4, .inl (cA 0, 2000, .inl fun _ => 0)), (q5, .inl (cA 0, 2000, .inl fun _ => 0)), (q6, .inl (cA 1, 2000, .inl fun _ => 0)), (q7, .inl (cA 1, 2000, .inl fun _ => 0)), (q8, .inl (cA 0, 12, .inl fun _ => 0)), (q9, .inr (2, [.ref q10, .ref q11, .int 0, .int 0])), (q10, .inl (cA 0, 85212, .inl fun _ => 0)), (q11, .inl (cA 0, 16117, .inl fun _ => 0)), (q12, .inr (3, [.ref q9, .ref q13, .int 0, .int 0, .int 0])), (q13, .inl (cA 0, 4000, .inl fun _ => 0)), (q14, .inr (4, [.ref q2, .ref q9, .ref q12, .ref q15, .ref q20, .ref q21, .ref q22, .ref q23, .int 0, .int 0])), (q15, .inr (5, [.ref q16, .ref q17, .ref q18, .ref q19, .int 0, .int 0])), (q16, .inl (cA 1, 4000, .inl fun _ => 0)), (q17, .inl (cA 0, 4000, .inl fun _ => 0)), (q18, .inl (cA 0, 2000, .inl fun _ => 0)), (q19, .inl (cA 0, 12, .inl fun _ => 0)), (q20, .inl (cA 0, 4000, .inl fun _ => 0)), (q21, .inl (cA 0, 32232, .inl fun _ => 0)), (q22, .inl (cA 1, 2000, .inl fun _ => 0)), (q23, .inl (cA 0, 2001, .inl fun _ => 0)), (q24, .inl (cA 0, 20, .inl fun _ => 0))] := hD
  refine W.widen (k := 24) (n := 165646) (Nat.le_of_ble_eq_true rfl) (Nat.le_of_ble_eq_true rfl) ?_
  refine lv_astore_n (lv' := [(1, .ref q1), (0, .ref b)]) hx hb zl_7 rfl hl (by decide) rfl (fun ls hl => ?_)
  refine va_new (ci := 6) (fs := [.int 0, .int 0, .int 0, .int 0, .null, .null, .null, .null, .null, .null, .null, .null, .null]) (own := "GateBenchLaw") (C := pz_cn 6) (T := pz_u 6) (N := pz_nf 6) hx hb (pz_lays hT 6 (pz_clq 6 (by decide)) _) (fun _ h => h) (pz_ft 6) (pz_ftok (pz_clq 6 (by decide))) hown (zk_w hT (w := .classLink "GateBenchLaw" 49 "GateBenchModel") (List.mem_of_getElem? (i := 596) (by decide +kernel)) (by decide +kernel) (by decide +kernel)) (zk_w hT (w := .instantiable "GateBenchModel" 13) (List.mem_of_getElem? (i := 597) (by decide +kernel)) (by decide +kernel) (by decide +kernel)) (zk_w hT (w := .initialized "GateBenchModel") (List.mem_of_getElem? (i := 7) (by decide +kernel)) (by decide +kernel) (by decide +kernel)) hK hP hD hS hA (pz_clq 6 (by decide)) (fun j hj => by have hj : j < 13 := hj; rcases (by omega : j = 0 ∨ j = 1 ∨ j = 2 ∨ j = 3 ∨ j = 4 ∨ j = 5 ∨ j = 6 ∨ j = 7 ∨ j = 8 ∨ j = 9 ∨ j = 10 ∨ j = 11 ∨ j = 12) with rfl | rfl | rfl | rfl | rfl | rfl | rfl | rfl | rfl | rfl | rfl | rfl | rfl <;> rfl) (Nat.le_of_ble_eq_true rfl) (Nat.le_of_ble_eq_true rfl) zl_8 (fun q25 H hP hD hS => ?_)
  have hP : va_P D pz_cl [(q1, .inr (0, [.ref q2, .ref q9, .ref q12, .ref q14, .ref q24, .int 0, .int 0])), (q2, .inr (1, [.ref q3, .ref q4, .ref q5, .ref q6, .ref q7, .ref q8, .int 1, .int 0])), (q3, .inl (cA 0, 2000, .inl (upd (fun _ => 0) 0 (-1)))), (q4, .inl (cA 0, 2000, .inl fun _ => 0)), (q5, .inl (cA 0, 2000, .inl fun _ => 0)), (q6, .inl (cA 1, 2000, .inl fun _ => 0)), (q7, .inl (cA 1, 2000, .inl fun _ => 0)), (q8, .inl (cA 0, 12, .inl fun _ => 0)), (q9, .inr (2, [.ref q10, .ref q11, .int 0, .int 0])), (q10, .inl (cA 0, 85212, .inl fun _ => 0)), (q11, .inl (cA 0, 16117, .inl fun _ => 0)), (q12, .inr (3, [.ref q9, .ref q13, .int 0, .int 0, .int 0])), (q13, .inl (cA 0, 4000, .inl fun _ => 0)), (q14, .inr (4, [.ref q2, .ref q9, .ref q12, .ref q15, .ref q20, .ref q21, .ref q22, .ref q23, .int 0, .int 0])), (q15, .inr (5, [.ref q16, .ref q17, .ref q18, .ref q19, .int 0, .int 0])), (q16, .inl (cA 1, 4000, .inl fun _ => 0)), (q17, .inl (cA 0, 4000, .inl fun _ => 0)), (q18, .inl (cA 0, 2000, .inl fun _ => 0)), (q19, .inl (cA 0, 12, .inl fun _ => 0)), (q20, .inl (cA 0, 4000, .inl fun _ => 0)), (q21, .inl (cA 0, 32232, .inl fun _ => 0)), (q22, .inl (cA 1, 2000, .inl fun _ => 0)), (q23, .inl (cA 0, 2001, .inl fun _ => 0)), (q24, .inl (cA 0, 20, .inl fun _ => 0)), (q25, .inr (6, [.int 0, .int 0, .int 0, .int 0, .null, .null, .null, .null, .null, .null, .null, .null, .null]))] H := hP
  have hD : va_D A [(q1, .inr (0, [.ref q2, .ref q9, .ref q12, .ref q14, .ref q24, .int 0, .int 0])), (q2, .inr (1, [.ref q3, .ref q4, .ref q5, .ref q6, .ref q7, .ref q8, .int 1, .int 0])), (q3, .inl (cA 0, 2000, .inl (upd (fun _ => 0) 0 (-1)))), (q4, .inl (cA 0, 2000, .inl fun _ => 0)), (q5, .inl (cA 0, 2000, .inl fun _ => 0)), (q6, .inl (cA 1, 2000, .inl fun _ => 0)), (q7, .inl (cA 1, 2000, .inl fun _ => 0)), (q8, .inl (cA 0, 12, .inl fun _ => 0)), (q9, .inr (2, [.ref q10, .ref q11, .int 0, .int 0])), (q10, .inl (cA 0, 85212, .inl fun _ => 0)), (q11, .inl (cA 0, 16117, .inl fun _ => 0)), (q12, .inr (3, [.ref q9, .ref q13, .int 0, .int 0, .int 0])), (q13, .inl (cA 0, 4000, .inl fun _ => 0)), (q14, .inr (4, [.ref q2, .ref q9, .ref q12, .ref q15, .ref q20, .ref q21, .ref q22, .ref q23, .int 0, .int 0])), (q15, .inr (5, [.ref q16, .ref q17, .ref q18, .ref q19, .int 0, .int 0])), (q16, .inl (cA 1, 4000, .inl fun _ => 0)), (q17, .inl (cA 0, 4000, .inl fun _ => 0)), (q18, .inl (cA 0, 2000, .inl fun _ => 0)), (q19, .inl (cA 0, 12, .inl fun _ => 0)), (q20, .inl (cA 0, 4000, .inl fun _ => 0)), (q21, .inl (cA 0, 32232, .inl fun _ => 0)), (q22, .inl (cA 1, 2000, .inl fun _ => 0)), (q23, .inl (cA 0, 2001, .inl fun _ => 0)), (q24, .inl (cA 0, 20, .inl fun _ => 0)), (q25, .inr (6, [.int 0, .int 0, .int 0, .int 0, .null, .null, .null, .null, .null, .null, .null, .null, .null]))] := hD
  refine W.widen (k := 25) (n := 165659) (Nat.le_of_ble_eq_true rfl) (Nat.le_of_ble_eq_true rfl) ?_
  refine lv_dup hx hb zl_11 rfl ?_
  have hPc := hP.sub (ws' := [(q25, .inr (6, [.int 0, .int 0, .int 0, .int 0, .null, .null, .null, .null, .null, .null, .null, .null, .null]))]) [24] rfl
  have hDc := hD.sub (ws' := [(q25, .inr (6, [.int 0, .int 0, .int 0, .int 0, .null, .null, .null, .null, .null, .null, .null, .null, .null]))]) [24] (by decide) rfl
  have hFc := va_free (wc := [(q25, .inr (6, [.int 0, .int 0, .int 0, .int 0, .null, .null, .null, .null, .null, .null, .null, .null, .null]))]) hD hS hA [24] rfl
  refine va_callv (va_runI (Ts := []) (As := []) (rest := [.ref q25]) ⟨hx, hb, hml, hown, fun _ h => by cases h⟩ (cn_6 l D cA q25 H.size) (cwI 0 (Ts := [.code zy_6 zb_6 1 none]) (zk_one (zk_w hT (w := .code zy_6 zb_6 1 none) (List.mem_of_getElem? (i := 600) (by decide +kernel)) (by decide +kernel) (by decide +kernel))) (zk_good rfl) rfl rfl rfl (zk_w hT (w := .initialized "GateBenchModel") (List.mem_of_getElem? (i := 7) (by decide +kernel)) (by decide +kernel) (by decide +kernel)) (zk_w hT (w := .methodLink "GateBenchLaw" 51 zy_6) (List.mem_of_getElem? (i := 598) (by decide +kernel)) (by decide +kernel) (by decide +kernel)) (zk_w hT (w := .instanceMethod zy_6) (List.mem_of_getElem? (i := 599) (by decide +kernel)) (by decide +kernel) (by decide +kernel)) rfl (by decide +kernel) ⟨(Nat.le_of_ble_eq_true rfl), (Nat.le_of_ble_eq_true rfl)⟩) ⟨fun a U g mk q => by obtain ⟨q0, q1, qT, qP, qK, qD⟩ := q; exact ⟨q0, q1, pz_T.same (s := U) rfl qT, qP, va_K.moved (u := U) (U := U.calling g mk a) (Vm.Alike.refl U.vm) qK, qD⟩, fun U hU hW => ⟨rfl, by rw [hU], pz_T.moved hW hT, by rw [hU]; exact hPc, va_K.moved hW.alike hK, hDc.weaken (fun _ _ _ _ => trivial)⟩⟩ rfl rfl hl.1 rfl (lv_room (Nat.le_of_ble_eq_true rfl)) zl_12 ⟨(Nat.le_of_ble_eq_true rfl), (Nat.le_of_ble_eq_true rfl)⟩) hS (fun q _ h => hFc q h) hFc (fun u t H1 locs ht hvm hw hB hz1 hk1 hS => ?_)
  obtain ⟨q26, q27, q28, q29, q30, q31, q32, q33, q34, rfl⟩ := hw
  obtain ⟨hP1, hD1⟩ := hB
  rw [ht] at hP1
  obtain ⟨hP, hD⟩ := va_join (wr := [(q1, .inr (0, [.ref q2, .ref q9, .ref q12, .ref q14, .ref q24, .int 0, .int 0])), (q2, .inr (1, [.ref q3, .ref q4, .ref q5, .ref q6, .ref q7, .ref q8, .int 1, .int 0])), (q3, .inl (cA 0, 2000, .inl (upd (fun _ => 0) 0 (-1)))), (q4, .inl (cA 0, 2000, .inl fun _ => 0)), (q5, .inl (cA 0, 2000, .inl fun _ => 0)), (q6, .inl (cA 1, 2000, .inl fun _ => 0)), (q7, .inl (cA 1, 2000, .inl fun _ => 0)), (q8, .inl (cA 0, 12, .inl fun _ => 0)), (q9, .inr (2, [.ref q10, .ref q11, .int 0, .int 0])), (q10, .inl (cA 0, 85212, .inl fun _ => 0)), (q11, .inl (cA 0, 16117, .inl fun _ => 0)), (q12, .inr (3, [.ref q9, .ref q13, .int 0, .int 0, .int 0])), (q13, .inl (cA 0, 4000, .inl fun _ => 0)), (q14, .inr (4, [.ref q2, .ref q9, .ref q12, .ref q15, .ref q20, .ref q21, .ref q22, .ref q23, .int 0, .int 0])), (q15, .inr (5, [.ref q16, .ref q17, .ref q18, .ref q19, .int 0, .int 0])), (q16, .inl (cA 1, 4000, .inl fun _ => 0)), (q17, .inl (cA 0, 4000, .inl fun _ => 0)), (q18, .inl (cA 0, 2000, .inl fun _ => 0)), (q19, .inl (cA 0, 12, .inl fun _ => 0)), (q20, .inl (cA 0, 4000, .inl fun _ => 0)), (q21, .inl (cA 0, 32232, .inl fun _ => 0)), (q22, .inl (cA 1, 2000, .inl fun _ => 0)), (q23, .inl (cA 0, 2001, .inl fun _ => 0)), (q24, .inl (cA 0, 20, .inl fun _ => 0))]) (w1 := [(q25, .inr (6, [.int 0, .int 1, .int 0, .int 0, .ref q26, .ref q27, .ref q28, .ref q29, .ref q30, .ref q31, .ref q32, .ref q33, .ref q34])), (q26, .inl (cA 0, 2000, .inl fun _ => 0)), (q27, .inl (cA 0, 2000, .inl fun _ => 0)), (q28, .inl (cA 0, 2000, .inl fun _ => 0)), (q29, .inl (cA 0, 2000, .inl fun _ => 0)), (q30, .inl (cA 0, 20, .inl fun _ => 0)), (q31, .inl (cA 1, 12, .inl fun _ => 0)), (q32, .inl (cA 1, 12, .inl fun _ => 0)), (q33, .inl (cA 1, 2000, .inl fun _ => 0)), (q34, .inl (cA 0, 20, .inl fun _ => 0))]) hP hD [24] [0, 1, 2, 3, 4, 5, 6, 7, 8, 9, 10, 11, 12, 13, 14, 15, 16, 17, 18, 19, 20, 21, 22, 23] rfl rfl (by decide) (by decide) hk1 hFc hP1 hD1
  generalize H1 = H at hP hS ⊢
  have hP : va_P D pz_cl [(q1, .inr (0, [.ref q2, .ref q9, .ref q12, .ref q14, .ref q24, .int 0, .int 0])), (q2, .inr (1, [.ref q3, .ref q4, .ref q5, .ref q6, .ref q7, .ref q8, .int 1, .int 0])), (q3, .inl (cA 0, 2000, .inl (upd (fun _ => 0) 0 (-1)))), (q4, .inl (cA 0, 2000, .inl fun _ => 0)), (q5, .inl (cA 0, 2000, .inl fun _ => 0)), (q6, .inl (cA 1, 2000, .inl fun _ => 0)), (q7, .inl (cA 1, 2000, .inl fun _ => 0)), (q8, .inl (cA 0, 12, .inl fun _ => 0)), (q9, .inr (2, [.ref q10, .ref q11, .int 0, .int 0])), (q10, .inl (cA 0, 85212, .inl fun _ => 0)), (q11, .inl (cA 0, 16117, .inl fun _ => 0)), (q12, .inr (3, [.ref q9, .ref q13, .int 0, .int 0, .int 0])), (q13, .inl (cA 0, 4000, .inl fun _ => 0)), (q14, .inr (4, [.ref q2, .ref q9, .ref q12, .ref q15, .ref q20, .ref q21, .ref q22, .ref q23, .int 0, .int 0])), (q15, .inr (5, [.ref q16, .ref q17, .ref q18, .ref q19, .int 0, .int 0])), (q16, .inl (cA 1, 4000, .inl fun _ => 0)), (q17, .inl (cA 0, 4000, .inl fun _ => 0)), (q18, .inl (cA 0, 2000, .inl fun _ => 0)), (q19, .inl (cA 0, 12, .inl fun _ => 0)), (q20, .inl (cA 0, 4000, .inl fun _ => 0)), (q21, .inl (cA 0, 32232, .inl fun _ => 0)), (q22, .inl (cA 1, 2000, .inl fun _ => 0)), (q23, .inl (cA 0, 2001, .inl fun _ => 0)), (q24, .inl (cA 0, 20, .inl fun _ => 0)), (q25, .inr (6, [.int 0, .int 1, .int 0, .int 0, .ref q26, .ref q27, .ref q28, .ref q29, .ref q30, .ref q31, .ref q32, .ref q33, .ref q34])), (q26, .inl (cA 0, 2000, .inl fun _ => 0)), (q27, .inl (cA 0, 2000, .inl fun _ => 0)), (q28, .inl (cA 0, 2000, .inl fun _ => 0)), (q29, .inl (cA 0, 2000, .inl fun _ => 0)), (q30, .inl (cA 0, 20, .inl fun _ => 0)), (q31, .inl (cA 1, 12, .inl fun _ => 0)), (q32, .inl (cA 1, 12, .inl fun _ => 0)), (q33, .inl (cA 1, 2000, .inl fun _ => 0)), (q34, .inl (cA 0, 20, .inl fun _ => 0))] H := hP
  have hD : va_D A [(q1, .inr (0, [.ref q2, .ref q9, .ref q12, .ref q14, .ref q24, .int 0, .int 0])), (q2, .inr (1, [.ref q3, .ref q4, .ref q5, .ref q6, .ref q7, .ref q8, .int 1, .int 0])), (q3, .inl (cA 0, 2000, .inl (upd (fun _ => 0) 0 (-1)))), (q4, .inl (cA 0, 2000, .inl fun _ => 0)), (q5, .inl (cA 0, 2000, .inl fun _ => 0)), (q6, .inl (cA 1, 2000, .inl fun _ => 0)), (q7, .inl (cA 1, 2000, .inl fun _ => 0)), (q8, .inl (cA 0, 12, .inl fun _ => 0)), (q9, .inr (2, [.ref q10, .ref q11, .int 0, .int 0])), (q10, .inl (cA 0, 85212, .inl fun _ => 0)), (q11, .inl (cA 0, 16117, .inl fun _ => 0)), (q12, .inr (3, [.ref q9, .ref q13, .int 0, .int 0, .int 0])), (q13, .inl (cA 0, 4000, .inl fun _ => 0)), (q14, .inr (4, [.ref q2, .ref q9, .ref q12, .ref q15, .ref q20, .ref q21, .ref q22, .ref q23, .int 0, .int 0])), (q15, .inr (5, [.ref q16, .ref q17, .ref q18, .ref q19, .int 0, .int 0])), (q16, .inl (cA 1, 4000, .inl fun _ => 0)), (q17, .inl (cA 0, 4000, .inl fun _ => 0)), (q18, .inl (cA 0, 2000, .inl fun _ => 0)), (q19, .inl (cA 0, 12, .inl fun _ => 0)), (q20, .inl (cA 0, 4000, .inl fun _ => 0)), (q21, .inl (cA 0, 32232, .inl fun _ => 0)), (q22, .inl (cA 1, 2000, .inl fun _ => 0)), (q23, .inl (cA 0, 2001, .inl fun _ => 0)), (q24, .inl (cA 0, 20, .inl fun _ => 0)), (q25, .inr (6, [.int 0, .int 1, .int 0, .int 0, .ref q26, .ref q27, .ref q28, .ref q29, .ref q30, .ref q31, .ref q32, .ref q33, .ref q34])), (q26, .inl (cA 0, 2000, .inl fun _ => 0)), (q27, .inl (cA 0, 2000, .inl fun _ => 0)), (q28, .inl (cA 0, 2000, .inl fun _ => 0)), (q29, .inl (cA 0, 2000, .inl fun _ => 0)), (q30, .inl (cA 0, 20, .inl fun _ => 0)), (q31, .inl (cA 1, 12, .inl fun _ => 0)), (q32, .inl (cA 1, 12, .inl fun _ => 0)), (q33, .inl (cA 1, 2000, .inl fun _ => 0)), (q34, .inl (cA 0, 20, .inl fun _ => 0))] := hD
  refine W.widen (k := 34) (n := 175723) (Nat.le_of_ble_eq_true rfl) (Nat.le_of_ble_eq_true rfl) ?_
  refine lv_astore_n (lv' := [(2, .ref q25), (1, .ref q1), (0, .ref b)]) hx hb zl_15 rfl hl (by decide) rfl (fun ls hl => ?_)
  refine lv_iconst (v := 1) hx hb zl_16 (by decide) ?_
  refine zk_newa (atype := .long) (ty := .long) (n := 1) (N' := 1) (a0 := (1, .inr (.inl fun _ => 0))) hx hb hT 2 rfl (Or.inr (Or.inr ⟨rfl, rfl⟩)) hK hP hD hS hA (fun _ => rfl) (by decide) (by decide) (Nat.le_of_ble_eq_true rfl) (Nat.le_of_ble_eq_true rfl) (Nat.le_of_ble_eq_true rfl) zl_17 (fun q35 H hP hD hS => ?_)
  have hP : va_P D pz_cl [(q1, .inr (0, [.ref q2, .ref q9, .ref q12, .ref q14, .ref q24, .int 0, .int 0])), (q2, .inr (1, [.ref q3, .ref q4, .ref q5, .ref q6, .ref q7, .ref q8, .int 1, .int 0])), (q3, .inl (cA 0, 2000, .inl (upd (fun _ => 0) 0 (-1)))), (q4, .inl (cA 0, 2000, .inl fun _ => 0)), (q5, .inl (cA 0, 2000, .inl fun _ => 0)), (q6, .inl (cA 1, 2000, .inl fun _ => 0)), (q7, .inl (cA 1, 2000, .inl fun _ => 0)), (q8, .inl (cA 0, 12, .inl fun _ => 0)), (q9, .inr (2, [.ref q10, .ref q11, .int 0, .int 0])), (q10, .inl (cA 0, 85212, .inl fun _ => 0)), (q11, .inl (cA 0, 16117, .inl fun _ => 0)), (q12, .inr (3, [.ref q9, .ref q13, .int 0, .int 0, .int 0])), (q13, .inl (cA 0, 4000, .inl fun _ => 0)), (q14, .inr (4, [.ref q2, .ref q9, .ref q12, .ref q15, .ref q20, .ref q21, .ref q22, .ref q23, .int 0, .int 0])), (q15, .inr (5, [.ref q16, .ref q17, .ref q18, .ref q19, .int 0, .int 0])), (q16, .inl (cA 1, 4000, .inl fun _ => 0)), (q17, .inl (cA 0, 4000, .inl fun _ => 0)), (q18, .inl (cA 0, 2000, .inl fun _ => 0)), (q19, .inl (cA 0, 12, .inl fun _ => 0)), (q20, .inl (cA 0, 4000, .inl fun _ => 0)), (q21, .inl (cA 0, 32232, .inl fun _ => 0)), (q22, .inl (cA 1, 2000, .inl fun _ => 0)), (q23, .inl (cA 0, 2001, .inl fun _ => 0)), (q24, .inl (cA 0, 20, .inl fun _ => 0)), (q25, .inr (6, [.int 0, .int 1, .int 0, .int 0, .ref q26, .ref q27, .ref q28, .ref q29, .ref q30, .ref q31, .ref q32, .ref q33, .ref q34])), (q26, .inl (cA 0, 2000, .inl fun _ => 0)), (q27, .inl (cA 0, 2000, .inl fun _ => 0)), (q28, .inl (cA 0, 2000, .inl fun _ => 0)), (q29, .inl (cA 0, 2000, .inl fun _ => 0)), (q30, .inl (cA 0, 20, .inl fun _ => 0)), (q31, .inl (cA 1, 12, .inl fun _ => 0)), (q32, .inl (cA 1, 12, .inl fun _ => 0)), (q33, .inl (cA 1, 2000, .inl fun _ => 0)), (q34, .inl (cA 0, 20, .inl fun _ => 0)), (q35, .inl (cA 2, 1, .inr (.inl fun _ => 0)))] H := hP
  have hD : va_D A [(q1, .inr (0, [.ref q2, .ref q9, .ref q12, .ref q14, .ref q24, .int 0, .int 0])), (q2, .inr (1, [.ref q3, .ref q4, .ref q5, .ref q6, .ref q7, .ref q8, .int 1, .int 0])), (q3, .inl (cA 0, 2000, .inl (upd (fun _ => 0) 0 (-1)))), (q4, .inl (cA 0, 2000, .inl fun _ => 0)), (q5, .inl (cA 0, 2000, .inl fun _ => 0)), (q6, .inl (cA 1, 2000, .inl fun _ => 0)), (q7, .inl (cA 1, 2000, .inl fun _ => 0)), (q8, .inl (cA 0, 12, .inl fun _ => 0)), (q9, .inr (2, [.ref q10, .ref q11, .int 0, .int 0])), (q10, .inl (cA 0, 85212, .inl fun _ => 0)), (q11, .inl (cA 0, 16117, .inl fun _ => 0)), (q12, .inr (3, [.ref q9, .ref q13, .int 0, .int 0, .int 0])), (q13, .inl (cA 0, 4000, .inl fun _ => 0)), (q14, .inr (4, [.ref q2, .ref q9, .ref q12, .ref q15, .ref q20, .ref q21, .ref q22, .ref q23, .int 0, .int 0])), (q15, .inr (5, [.ref q16, .ref q17, .ref q18, .ref q19, .int 0, .int 0])), (q16, .inl (cA 1, 4000, .inl fun _ => 0)), (q17, .inl (cA 0, 4000, .inl fun _ => 0)), (q18, .inl (cA 0, 2000, .inl fun _ => 0)), (q19, .inl (cA 0, 12, .inl fun _ => 0)), (q20, .inl (cA 0, 4000, .inl fun _ => 0)), (q21, .inl (cA 0, 32232, .inl fun _ => 0)), (q22, .inl (cA 1, 2000, .inl fun _ => 0)), (q23, .inl (cA 0, 2001, .inl fun _ => 0)), (q24, .inl (cA 0, 20, .inl fun _ => 0)), (q25, .inr (6, [.int 0, .int 1, .int 0, .int 0, .ref q26, .ref q27, .ref q28, .ref q29, .ref q30, .ref q31, .ref q32, .ref q33, .ref q34])), (q26, .inl (cA 0, 2000, .inl fun _ => 0)), (q27, .inl (cA 0, 2000, .inl fun _ => 0)), (q28, .inl (cA 0, 2000, .inl fun _ => 0)), (q29, .inl (cA 0, 2000, .inl fun _ => 0)), (q30, .inl (cA 0, 20, .inl fun _ => 0)), (q31, .inl (cA 1, 12, .inl fun _ => 0)), (q32, .inl (cA 1, 12, .inl fun _ => 0)), (q33, .inl (cA 1, 2000, .inl fun _ => 0)), (q34, .inl (cA 0, 20, .inl fun _ => 0)), (q35, .inl (cA 2, 1, .inr (.inl fun _ => 0)))] := hD
  refine W.widen (k := 35) (n := 175724) (Nat.le_of_ble_eq_true rfl) (Nat.le_of_ble_eq_true rfl) ?_
  refine lv_astore_n (lv' := [(3, .ref q35), (2, .ref q25), (1, .ref q1), (0, .ref b)]) hx hb zl_19 rfl hl (by decide) rfl (fun ls hl => ?_)
  have hPo := hP.sub (ws' := [(q1, .inr (0, [.ref q2, .ref q9, .ref q12, .ref q14, .ref q24, .int 0, .int 0])), (q2, .inr (1, [.ref q3, .ref q4, .ref q5, .ref q6, .ref q7, .ref q8, .int 1, .int 0])), (q9, .inr (2, [.ref q10, .ref q11, .int 0, .int 0])), (q12, .inr (3, [.ref q9, .ref q13, .int 0, .int 0, .int 0])), (q14, .inr (4, [.ref q2, .ref q9, .ref q12, .ref q15, .ref q20, .ref q21, .ref q22, .ref q23, .int 0, .int 0])), (q15, .inr (5, [.ref q16, .ref q17, .ref q18, .ref q19, .int 0, .int 0])), (q24, .inl (cA 0, 20, .inl fun _ => 0)), (q3, .inl (cA 0, 2000, .inl (upd (fun _ => 0) 0 (-1)))), (q4, .inl (cA 0, 2000, .inl fun _ => 0)), (q5, .inl (cA 0, 2000, .inl fun _ => 0)), (q6, .inl (cA 1, 2000, .inl fun _ => 0)), (q7, .inl (cA 1, 2000, .inl fun _ => 0)), (q8, .inl (cA 0, 12, .inl fun _ => 0)), (q10, .inl (cA 0, 85212, .inl fun _ => 0)), (q11, .inl (cA 0, 16117, .inl fun _ => 0)), (q13, .inl (cA 0, 4000, .inl fun _ => 0)), (q20, .inl (cA 0, 4000, .inl fun _ => 0)), (q21, .inl (cA 0, 32232, .inl fun _ => 0)), (q22, .inl (cA 1, 2000, .inl fun _ => 0)), (q23, .inl (cA 0, 2001, .inl fun _ => 0)), (q16, .inl (cA 1, 4000, .inl fun _ => 0)), (q17, .inl (cA 0, 4000, .inl fun _ => 0)), (q18, .inl (cA 0, 2000, .inl fun _ => 0)), (q19, .inl (cA 0, 12, .inl fun _ => 0)), (q25, .inr (6, [.int 0, .int 1, .int 0, .int 0, .ref q26, .ref q27, .ref q28, .ref q29, .ref q30, .ref q31, .ref q32, .ref q33, .ref q34])), (q26, .inl (cA 0, 2000, .inl fun _ => 0)), (q27, .inl (cA 0, 2000, .inl fun _ => 0)), (q28, .inl (cA 0, 2000, .inl fun _ => 0)), (q29, .inl (cA 0, 2000, .inl fun _ => 0)), (q30, .inl (cA 0, 20, .inl fun _ => 0)), (q31, .inl (cA 1, 12, .inl fun _ => 0)), (q32, .inl (cA 1, 12, .inl fun _ => 0)), (q33, .inl (cA 1, 2000, .inl fun _ => 0)), (q34, .inl (cA 0, 20, .inl fun _ => 0)), (q35, .inl (cA 2, 1, .inr (.inl fun _ => 0)))]) [0, 1, 8, 11, 13, 14, 23, 2, 3, 4, 5, 6, 7, 9, 10, 12, 19, 20, 21, 22, 15, 16, 17, 18, 24, 25, 26, 27, 28, 29, 30, 31, 32, 33, 34] rfl
  have hDo := hD.sub (ws' := [(q1, .inr (0, [.ref q2, .ref q9, .ref q12, .ref q14, .ref q24, .int 0, .int 0])), (q2, .inr (1, [.ref q3, .ref q4, .ref q5, .ref q6, .ref q7, .ref q8, .int 1, .int 0])), (q9, .inr (2, [.ref q10, .ref q11, .int 0, .int 0])), (q12, .inr (3, [.ref q9, .ref q13, .int 0, .int 0, .int 0])), (q14, .inr (4, [.ref q2, .ref q9, .ref q12, .ref q15, .ref q20, .ref q21, .ref q22, .ref q23, .int 0, .int 0])), (q15, .inr (5, [.ref q16, .ref q17, .ref q18, .ref q19, .int 0, .int 0])), (q24, .inl (cA 0, 20, .inl fun _ => 0)), (q3, .inl (cA 0, 2000, .inl (upd (fun _ => 0) 0 (-1)))), (q4, .inl (cA 0, 2000, .inl fun _ => 0)), (q5, .inl (cA 0, 2000, .inl fun _ => 0)), (q6, .inl (cA 1, 2000, .inl fun _ => 0)), (q7, .inl (cA 1, 2000, .inl fun _ => 0)), (q8, .inl (cA 0, 12, .inl fun _ => 0)), (q10, .inl (cA 0, 85212, .inl fun _ => 0)), (q11, .inl (cA 0, 16117, .inl fun _ => 0)), (q13, .inl (cA 0, 4000, .inl fun _ => 0)), (q20, .inl (cA 0, 4000, .inl fun _ => 0)), (q21, .inl (cA 0, 32232, .inl fun _ => 0)), (q22, .inl (cA 1, 2000, .inl fun _ => 0)), (q23, .inl (cA 0, 2001, .inl fun _ => 0)), (q16, .inl (cA 1, 4000, .inl fun _ => 0)), (q17, .inl (cA 0, 4000, .inl fun _ => 0)), (q18, .inl (cA 0, 2000, .inl fun _ => 0)), (q19, .inl (cA 0, 12, .inl fun _ => 0)), (q25, .inr (6, [.int 0, .int 1, .int 0, .int 0, .ref q26, .ref q27, .ref q28, .ref q29, .ref q30, .ref q31, .ref q32, .ref q33, .ref q34])), (q26, .inl (cA 0, 2000, .inl fun _ => 0)), (q27, .inl (cA 0, 2000, .inl fun _ => 0)), (q28, .inl (cA 0, 2000, .inl fun _ => 0)), (q29, .inl (cA 0, 2000, .inl fun _ => 0)), (q30, .inl (cA 0, 20, .inl fun _ => 0)), (q31, .inl (cA 1, 12, .inl fun _ => 0)), (q32, .inl (cA 1, 12, .inl fun _ => 0)), (q33, .inl (cA 1, 2000, .inl fun _ => 0)), (q34, .inl (cA 0, 20, .inl fun _ => 0)), (q35, .inl (cA 2, 1, .inr (.inl fun _ => 0)))]) [0, 1, 8, 11, 13, 14, 23, 2, 3, 4, 5, 6, 7, 9, 10, 12, 19, 20, 21, 22, 15, 16, 17, 18, 24, 25, 26, 27, 28, 29, 30, 31, 32, 33, 34] (by decide) rfl
  obtain ⟨WS, hWS⟩ : ∃ z : va_W, z = [(q1, .inr (0, [.ref q2, .ref q9, .ref q12, .ref q14, .ref q24, .int 0, .int 0])), (q2, .inr (1, [.ref q3, .ref q4, .ref q5, .ref q6, .ref q7, .ref q8, .int 1, .int 0])), (q9, .inr (2, [.ref q10, .ref q11, .int 0, .int 0])), (q12, .inr (3, [.ref q9, .ref q13, .int 0, .int 0, .int 0])), (q14, .inr (4, [.ref q2, .ref q9, .ref q12, .ref q15, .ref q20, .ref q21, .ref q22, .ref q23, .int 0, .int 0])), (q15, .inr (5, [.ref q16, .ref q17, .ref q18, .ref q19, .int 0, .int 0])), (q24, .inl (cA 0, 20, .inl fun _ => 0)), (q3, .inl (cA 0, 2000, .inl (upd (fun _ => 0) 0 (-1)))), (q4, .inl (cA 0, 2000, .inl fun _ => 0)), (q5, .inl (cA 0, 2000, .inl fun _ => 0)), (q6, .inl (cA 1, 2000, .inl fun _ => 0)), (q7, .inl (cA 1, 2000, .inl fun _ => 0)), (q8, .inl (cA 0, 12, .inl fun _ => 0)), (q10, .inl (cA 0, 85212, .inl fun _ => 0)), (q11, .inl (cA 0, 16117, .inl fun _ => 0)), (q13, .inl (cA 0, 4000, .inl fun _ => 0)), (q20, .inl (cA 0, 4000, .inl fun _ => 0)), (q21, .inl (cA 0, 32232, .inl fun _ => 0)), (q22, .inl (cA 1, 2000, .inl fun _ => 0)), (q23, .inl (cA 0, 2001, .inl fun _ => 0)), (q16, .inl (cA 1, 4000, .inl fun _ => 0)), (q17, .inl (cA 0, 4000, .inl fun _ => 0)), (q18, .inl (cA 0, 2000, .inl fun _ => 0)), (q19, .inl (cA 0, 12, .inl fun _ => 0)), (q25, .inr (6, [.int 0, .int 1, .int 0, .int 0, .ref q26, .ref q27, .ref q28, .ref q29, .ref q30, .ref q31, .ref q32, .ref q33, .ref q34])), (q26, .inl (cA 0, 2000, .inl fun _ => 0)), (q27, .inl (cA 0, 2000, .inl fun _ => 0)), (q28, .inl (cA 0, 2000, .inl fun _ => 0)), (q29, .inl (cA 0, 2000, .inl fun _ => 0)), (q30, .inl (cA 0, 20, .inl fun _ => 0)), (q31, .inl (cA 1, 12, .inl fun _ => 0)), (q32, .inl (cA 1, 12, .inl fun _ => 0)), (q33, .inl (cA 1, 2000, .inl fun _ => 0)), (q34, .inl (cA 0, 20, .inl fun _ => 0)), (q35, .inl (cA 2, 1, .inr (.inl fun _ => 0)))] := ⟨_, rfl⟩
  have hlen : WS.length = 35 := by rw [hWS]; rfl
  have hbA : ¬ A b := fun h => by have := hAi b h; omega
  rw [← hWS] at hDo
  have hinj : pz_inj (zs_ad WS b) := zs_inj hlen hDo hbA
  have hge : ∀ c, c < 35 → s.heap.size ≤ zs_ad WS b c := fun c hc => hAi _ (zs_in hlen hDo c hc)
  have ea0 : zs_ad WS b 0 = q1 := by rw [hWS]; rfl
  have ea1 : zs_ad WS b 1 = q2 := by rw [hWS]; rfl
  have ea2 : zs_ad WS b 2 = q9 := by rw [hWS]; rfl
  have ea3 : zs_ad WS b 3 = q12 := by rw [hWS]; rfl
  have ea4 : zs_ad WS b 4 = q14 := by rw [hWS]; rfl
  have ea5 : zs_ad WS b 5 = q15 := by rw [hWS]; rfl
  have ea6 : zs_ad WS b 6 = q24 := by rw [hWS]; rfl
  have ea7 : zs_ad WS b 7 = q3 := by rw [hWS]; rfl
  have ea8 : zs_ad WS b 8 = q4 := by rw [hWS]; rfl
  have ea9 : zs_ad WS b 9 = q5 := by rw [hWS]; rfl
  have ea10 : zs_ad WS b 10 = q6 := by rw [hWS]; rfl
  have ea11 : zs_ad WS b 11 = q7 := by rw [hWS]; rfl
  have ea12 : zs_ad WS b 12 = q8 := by rw [hWS]; rfl
  have ea13 : zs_ad WS b 13 = q10 := by rw [hWS]; rfl
  have ea14 : zs_ad WS b 14 = q11 := by rw [hWS]; rfl
  have ea15 : zs_ad WS b 15 = q13 := by rw [hWS]; rfl
  have ea16 : zs_ad WS b 16 = q20 := by rw [hWS]; rfl
  have ea17 : zs_ad WS b 17 = q21 := by rw [hWS]; rfl
  have ea18 : zs_ad WS b 18 = q22 := by rw [hWS]; rfl
  have ea19 : zs_ad WS b 19 = q23 := by rw [hWS]; rfl
  have ea20 : zs_ad WS b 20 = q16 := by rw [hWS]; rfl
  have ea21 : zs_ad WS b 21 = q17 := by rw [hWS]; rfl
  have ea22 : zs_ad WS b 22 = q18 := by rw [hWS]; rfl
  have ea23 : zs_ad WS b 23 = q19 := by rw [hWS]; rfl
  have ea24 : zs_ad WS b 24 = q25 := by rw [hWS]; rfl
  have ea25 : zs_ad WS b 25 = q26 := by rw [hWS]; rfl
  have ea26 : zs_ad WS b 26 = q27 := by rw [hWS]; rfl
  have ea27 : zs_ad WS b 27 = q28 := by rw [hWS]; rfl
  have ea28 : zs_ad WS b 28 = q29 := by rw [hWS]; rfl
  have ea29 : zs_ad WS b 29 = q30 := by rw [hWS]; rfl
  have ea30 : zs_ad WS b 30 = q31 := by rw [hWS]; rfl
  have ea31 : zs_ad WS b 31 = q32 := by rw [hWS]; rfl
  have ea32 : zs_ad WS b 32 = q33 := by rw [hWS]; rfl
  have ea33 : zs_ad WS b 33 = q34 := by rw [hWS]; rfl
  have ea34 : zs_ad WS b 34 = q35 := by rw [hWS]; rfl
  have ea35 : zs_ad WS b 35 = b := zs_last hlen
  generalize zs_ad WS b = ad at hinj hge ea0 ea1 ea2 ea3 ea4 ea5 ea6 ea7 ea8 ea9 ea10 ea11 ea12 ea13 ea14 ea15 ea16 ea17 ea18 ea19 ea20 ea21 ea22 ea23 ea24 ea25 ea26 ea27 ea28 ea29 ea30 ea31 ea32 ea33 ea34 ea35
  have hPw : va_P D pz_cl (pz_ws L ad cA (zs_M xs)) H := by
    refine zs_world (fun c hc d hd => ?_)
    rcases (by omega : c = 0 ∨ c = 1 ∨ c = 2 ∨ c = 3 ∨ c = 4 ∨ c = 5 ∨ c = 6 ∨ c = 7 ∨ c = 8 ∨ c = 9 ∨ c = 10 ∨ c = 11 ∨ c = 12 ∨ c = 13 ∨ c = 14 ∨ c = 15 ∨ c = 16 ∨ c = 17 ∨ c = 18 ∨ c = 19 ∨ c = 20 ∨ c = 21 ∨ c = 22 ∨ c = 23 ∨ c = 24 ∨ c = 25 ∨ c = 26 ∨ c = 27 ∨ c = 28 ∨ c = 29 ∨ c = 30 ∨ c = 31 ∨ c = 32 ∨ c = 33 ∨ c = 34) with rfl | rfl | rfl | rfl | rfl | rfl | rfl | rfl | rfl | rfl | rfl | rfl | rfl | rfl | rfl | rfl | rfl | rfl | rfl | rfl | rfl | rfl | rfl | rfl | rfl | rfl | rfl | rfl | rfl | rfl | rfl | rfl | rfl | rfl | rfl
    · cases hd
      have h := hPo 0 _ rfl
      show va_at D pz_cl (ad 0, .inr (0, [.ref (ad 1), .ref (ad 2), .ref (ad 3), .ref (ad 4), .ref (ad 6), .int 0, .int 0])) H
      rw [ea0, ea1, ea2, ea3, ea4, ea6]
      exact h
    · cases hd
      have h := hPo 1 _ rfl
      show va_at D pz_cl (ad 1, .inr (1, [.ref (ad 7), .ref (ad 8), .ref (ad 9), .ref (ad 10), .ref (ad 11), .ref (ad 12), .int 1, .int 0])) H
      rw [ea1, ea7, ea8, ea9, ea10, ea11, ea12]
      exact h
    · cases hd
      have h := hPo 2 _ rfl
      show va_at D pz_cl (ad 2, .inr (2, [.ref (ad 13), .ref (ad 14), .int 0, .int 0])) H
      rw [ea2, ea13, ea14]
      exact h
    · cases hd
      have h := hPo 3 _ rfl
      show va_at D pz_cl (ad 3, .inr (3, [.ref (ad 2), .ref (ad 15), .int 0, .int 0, .int 0])) H
      rw [ea2, ea3, ea15]
      exact h
    · cases hd
      have h := hPo 4 _ rfl
      show va_at D pz_cl (ad 4, .inr (4, [.ref (ad 1), .ref (ad 2), .ref (ad 3), .ref (ad 5), .ref (ad 16), .ref (ad 17), .ref (ad 18), .ref (ad 19), .int 0, .int 0])) H
      rw [ea1, ea2, ea3, ea4, ea5, ea16, ea17, ea18, ea19]
      exact h
    · cases hd
      have h := hPo 5 _ rfl
      show va_at D pz_cl (ad 5, .inr (5, [.ref (ad 20), .ref (ad 21), .ref (ad 22), .ref (ad 23), .int 0, .int 0])) H
      rw [ea5, ea20, ea21, ea22, ea23]
      exact h
    · cases hd
      have h := hPo 6 _ rfl
      show va_at D pz_cl (ad 6, .inl (cA 0, 20, .inl fun j => Int32.ofInt (zs_M xs 6 (j : Int)))) H
      rw [ea6, zs_0 (by decide)]
      exact h
    · cases hd
      have h := hPo 7 _ rfl
      show va_at D pz_cl (ad 7, .inl (cA 0, 2000, .inl fun j => Int32.ofInt (zs_M xs 7 (j : Int)))) H
      rw [ea7, zs_7]
      exact h
    · cases hd
      have h := hPo 8 _ rfl
      show va_at D pz_cl (ad 8, .inl (cA 0, 2000, .inl fun j => Int32.ofInt (zs_M xs 8 (j : Int)))) H
      rw [ea8, zs_0 (by decide)]
      exact h
    · cases hd
      have h := hPo 9 _ rfl
      show va_at D pz_cl (ad 9, .inl (cA 0, 2000, .inl fun j => Int32.ofInt (zs_M xs 9 (j : Int)))) H
      rw [ea9, zs_0 (by decide)]
      exact h
    · cases hd
      have h := hPo 10 _ rfl
      show va_at D pz_cl (ad 10, .inl (cA 1, 2000, .inl fun j => Int32.ofInt (zs_M xs 10 (j : Int)))) H
      rw [ea10, zs_0 (by decide)]
      exact h
    · cases hd
      have h := hPo 11 _ rfl
      show va_at D pz_cl (ad 11, .inl (cA 1, 2000, .inl fun j => Int32.ofInt (zs_M xs 11 (j : Int)))) H
      rw [ea11, zs_0 (by decide)]
      exact h
    · cases hd
      have h := hPo 12 _ rfl
      show va_at D pz_cl (ad 12, .inl (cA 0, 12, .inl fun j => Int32.ofInt (zs_M xs 12 (j : Int)))) H
      rw [ea12, zs_0 (by decide)]
      exact h
    · cases hd
      have h := hPo 13 _ rfl
      show va_at D pz_cl (ad 13, .inl (cA 0, 85212, .inl fun j => Int32.ofInt (zs_M xs 13 (j : Int)))) H
      rw [ea13, zs_0 (by decide)]
      exact h
    · cases hd
      have h := hPo 14 _ rfl
      show va_at D pz_cl (ad 14, .inl (cA 0, 16117, .inl fun j => Int32.ofInt (zs_M xs 14 (j : Int)))) H
      rw [ea14, zs_0 (by decide)]
      exact h
    · cases hd
      have h := hPo 15 _ rfl
      show va_at D pz_cl (ad 15, .inl (cA 0, 4000, .inl fun j => Int32.ofInt (zs_M xs 15 (j : Int)))) H
      rw [ea15, zs_0 (by decide)]
      exact h
    · cases hd
      have h := hPo 16 _ rfl
      show va_at D pz_cl (ad 16, .inl (cA 0, 4000, .inl fun j => Int32.ofInt (zs_M xs 16 (j : Int)))) H
      rw [ea16, zs_0 (by decide)]
      exact h
    · cases hd
      have h := hPo 17 _ rfl
      show va_at D pz_cl (ad 17, .inl (cA 0, 32232, .inl fun j => Int32.ofInt (zs_M xs 17 (j : Int)))) H
      rw [ea17, zs_0 (by decide)]
      exact h
    · cases hd
      have h := hPo 18 _ rfl
      show va_at D pz_cl (ad 18, .inl (cA 1, 2000, .inl fun j => Int32.ofInt (zs_M xs 18 (j : Int)))) H
      rw [ea18, zs_0 (by decide)]
      exact h
    · cases hd
      have h := hPo 19 _ rfl
      show va_at D pz_cl (ad 19, .inl (cA 0, 2001, .inl fun j => Int32.ofInt (zs_M xs 19 (j : Int)))) H
      rw [ea19, zs_0 (by decide)]
      exact h
    · cases hd
      have h := hPo 20 _ rfl
      show va_at D pz_cl (ad 20, .inl (cA 1, 4000, .inl fun j => Int32.ofInt (zs_M xs 20 (j : Int)))) H
      rw [ea20, zs_0 (by decide)]
      exact h
    · cases hd
      have h := hPo 21 _ rfl
      show va_at D pz_cl (ad 21, .inl (cA 0, 4000, .inl fun j => Int32.ofInt (zs_M xs 21 (j : Int)))) H
      rw [ea21, zs_0 (by decide)]
      exact h
    · cases hd
      have h := hPo 22 _ rfl
      show va_at D pz_cl (ad 22, .inl (cA 0, 2000, .inl fun j => Int32.ofInt (zs_M xs 22 (j : Int)))) H
      rw [ea22, zs_0 (by decide)]
      exact h
    · cases hd
      have h := hPo 23 _ rfl
      show va_at D pz_cl (ad 23, .inl (cA 0, 12, .inl fun j => Int32.ofInt (zs_M xs 23 (j : Int)))) H
      rw [ea23, zs_0 (by decide)]
      exact h
    · cases hd
      have h := hPo 24 _ rfl
      show va_at D pz_cl (ad 24, .inr (6, [.int 0, .int 1, .int 0, .int 0, .ref (ad 25), .ref (ad 26), .ref (ad 27), .ref (ad 28), .ref (ad 29), .ref (ad 30), .ref (ad 31), .ref (ad 32), .ref (ad 33)])) H
      rw [ea24, ea25, ea26, ea27, ea28, ea29, ea30, ea31, ea32, ea33]
      exact h
    · cases hd
      have h := hPo 25 _ rfl
      show va_at D pz_cl (ad 25, .inl (cA 0, 2000, .inl fun j => Int32.ofInt (zs_M xs 25 (j : Int)))) H
      rw [ea25, zs_0 (by decide)]
      exact h
    · cases hd
      have h := hPo 26 _ rfl
      show va_at D pz_cl (ad 26, .inl (cA 0, 2000, .inl fun j => Int32.ofInt (zs_M xs 26 (j : Int)))) H
      rw [ea26, zs_0 (by decide)]
      exact h
    · cases hd
      have h := hPo 27 _ rfl
      show va_at D pz_cl (ad 27, .inl (cA 0, 2000, .inl fun j => Int32.ofInt (zs_M xs 27 (j : Int)))) H
      rw [ea27, zs_0 (by decide)]
      exact h
    · cases hd
      have h := hPo 28 _ rfl
      show va_at D pz_cl (ad 28, .inl (cA 0, 2000, .inl fun j => Int32.ofInt (zs_M xs 28 (j : Int)))) H
      rw [ea28, zs_0 (by decide)]
      exact h
    · cases hd
      have h := hPo 29 _ rfl
      show va_at D pz_cl (ad 29, .inl (cA 0, 20, .inl fun j => Int32.ofInt (zs_M xs 29 (j : Int)))) H
      rw [ea29, zs_0 (by decide)]
      exact h
    · cases hd
      have h := hPo 30 _ rfl
      show va_at D pz_cl (ad 30, .inl (cA 1, 12, .inl fun j => Int32.ofInt (zs_M xs 30 (j : Int)))) H
      rw [ea30, zs_0 (by decide)]
      exact h
    · cases hd
      have h := hPo 31 _ rfl
      show va_at D pz_cl (ad 31, .inl (cA 1, 12, .inl fun j => Int32.ofInt (zs_M xs 31 (j : Int)))) H
      rw [ea31, zs_0 (by decide)]
      exact h
    · cases hd
      have h := hPo 32 _ rfl
      show va_at D pz_cl (ad 32, .inl (cA 1, 2000, .inl fun j => Int32.ofInt (zs_M xs 32 (j : Int)))) H
      rw [ea32, zs_0 (by decide)]
      exact h
    · cases hd
      have h := hPo 33 _ rfl
      show va_at D pz_cl (ad 33, .inl (cA 0, 20, .inl fun j => Int32.ofInt (zs_M xs 33 (j : Int)))) H
      rw [ea33, zs_0 (by decide)]
      exact h
    · cases hd
      have h := hPo 34 _ rfl
      show va_at D pz_cl (ad 34, .inl (cA 2, 1, .inr (.inl fun j => Int64.ofInt (zs_M xs 34 (j : Int))))) H
      rw [ea34, zs_0l (by decide)]
      exact h
  have hSw : va_S (pz_A ad s.heap.size) s.heap H locs := ⟨hS.1, fun q h1 h2 => hS.2.1 q h1 (fun h => h2 (Or.inr (hAi q h))), fun q hq => Or.inr (hAi _ (hS.2.2 q hq))⟩
  have hlw : lv_has ls 7 (pz_lv ad [some (.inr (.inl 35)), some (.inr (.inl 0)), some (.inr (.inl 24)), some (.inr (.inl 34)), none, none, none]) := by
    have h := lv_sub hl [3, 2, 1, 0] rfl
    show lv_has ls 7 [(0, .ref (ad 35)), (1, .ref (ad 0)), (2, .ref (ad 24)), (3, .ref (ad 34))]
    rw [ea35, ea0, ea24, ea34]
    exact h
  have hXs : pz_Xs (l, L, ad, cA, D) s (zs_M xs) := by
    refine ⟨?_, ?_⟩
    · show va_X (ad 35) L (fun j => Int32.ofInt (zs_M xs 35 j)) s s.heap
      rw [ea35, zs_35]
      exact hX
    · show ad 35 < s.heap.size
      rw [ea35]
      exact hbl
  have hC : pz_C (l, L, ad, cA, D) 95 p room_1 s m meth c := ⟨hx, hb, hr, hlocks, hown, hT, hK, zs_Th hts hgv hge, (Nat.le_of_ble_eq_true rfl), (Nat.le_of_ble_eq_true rfl), hml, by unfold pz_tab; rw [htab]; rfl, by show L ≤ 100000; omega, hinj, hst, zs_Nx hgv⟩
  have hZ := pz_sound (l, L, ad, cA, D) (law_true (L := L) (Q := fun r _ => r = .inl (some (.inl 1))) (M := zs_M xs) (by omega) (zs_new xs) (fun _ => rfl))
  have hW := hZ (fun v hv => by
      simp only [List.mem_cons, List.not_mem_nil, or_false, Option.some.injEq, reduceCtorEq] at hv
      rcases hv with rfl | rfl | rfl | rfl <;> exact ⟨trivial, rfl⟩) (fun v hv => by cases hv) (zs_R xs) rfl p e room_1 s m #[Value.ref b] below meth c H locs 35 175724 ls 547 178796 hC (Nat.le_of_ble_eq_true rfl) (Nat.le_of_ble_eq_true rfl) (Nat.le_of_ble_eq_true rfl) (Nat.le_of_ble_eq_true rfl) hPw hSw hlw hXs
  refine pz_Wm hW ?_
  rintro t ⟨o, r, M', a1, a2, rfl, a4, a5, a6, a7, a8, a9, Lc, b1, b2, b3⟩
  have ho : o = .returned (some (.int 1)) := a4.1
  refine ⟨o, a1, a2, ho, ⟨_, ho⟩, a8, b2.weaken (fun y hy hlt => ?_) (by omega) (by omega)⟩
  rcases b1 y hy with ⟨k, hk, e1⟩ | h
  · exact absurd hlt (by rw [e1]; exact Nat.not_lt.mpr (hge k hk))
  · exact absurd hlt (Nat.not_lt.mpr h)
set_option maxHeartbeats 4000000 in
theorem lw_walk (l : Launch) (hst : l.stackTraces = false) (b : Addr) (xs : List Int32) : MetFree l x (headSpec (Jvm.Cond.code x code maxLocals ret :: tables_1) room_1) (zq_P b xs) (fun _ _ _ _ _ => True) lw_Q := by
  refine MetFree.of_bodyS (code := code) (maxLocals := maxLocals) (ret := ret) (by decide) ?_ ?_
  · intro args s m h hn
    obtain ⟨meth, c, h1, h2, h3, h4, h5, h6, -, -⟩ := Cond.code_spec hn (atoms_spec (ws := Jvm.Cond.code x code maxLocals ret :: tables_1) h _ List.mem_cons_self)
    exact ⟨meth, c, h1, h2, h3, h4, h5, h6⟩
  · intro p e s m args below meth c s₁ B hml0 hP _
    obtain ⟨rfl, hx, hbd, hgv⟩ := hP
    obtain ⟨scr, harrAt, hlist, hof, hsmall⟩ := hx
    obtain ⟨hcb, hkn, -, -⟩ := State.arrayAt?_spec harrAt
    have hown : s.vm.findClass R_law = some m.cls := findClass_of_methodNamed B.named
    have hts0 : ∀ c ∈ (Jvm.Cond.code x code maxLocals ret :: tables_1), c.before #[Value.ref b] s = true := atoms_spec (ws := Jvm.Cond.code x code maxLocals ret :: tables_1) B.pre
    have hts : ∀ w ∈ lw_tbl, w.before #[Value.ref b] s = true := k2_hts_sels lw_privs (fun w hw => hts0 w (List.mem_cons_of_mem _ hw)) lw_privs_ok
    have hml : c.maxLocals = 7 := B.maxLocals_eq (hts0 _ List.mem_cons_self)
    have X₀ : Stand p l e room_1 s m #[Value.ref b] below meth c s₁ [] 0 0 := Stand.of_body B
    have hh0 : s₁.heap = s.heap := by rw [B.state]; rfl
    have htab : c.exceptionTable.toList = [] := by
      obtain ⟨meth', c', g1, g2, -, -, -, -, g7, -⟩ := Cond.code_spec B.named (hts0 _ List.mem_cons_self)
      cases X₀.method.symm.trans g1
      cases X₀.code.symm.trans g2
      rw [Array.isEmpty_iff.mp g7]
    have hsz : scr.slots.size = xs.length := by rw [← Array.length_toList, hlist, List.length_map]
    have hval : ∀ j : Nat, j < xs.length → scr.slots[j]? = some (.int (xs.getD j 0)) := fun j hj => by
      rw [← Array.getElem?_toList, hlist]
      simp [hj]
    have hbl : b < s.heap.size := (Array.getElem?_eq_some_iff.mp hcb).1
    have hX : va_X b xs.length (fun j => xs.getD j 0) s s.heap := ⟨scr, hcb, hof, hkn, hsz, hval⟩
    have K : W p l e room_1 s m #[Value.ref b] below meth c s₁.heap [] 0 0 (lw_Z below #[Value.ref b] s) (entryFrame m ([Value.ref b] : List Value).toArray 7) := by
      rw [hh0]
      exact whole_start l hst hbd htab ⟨B.exec, B.bytes, B.returns, hml, hown, hts, hX, hbl, B.notSynchronized, hgv⟩
    obtain ⟨t, a1, o, b1, b2, b3⟩ := K s₁ rfl X₀
    exact ⟨t, o, a1, b1, b2, b3⟩
theorem lw_pre_spec {args : Array Value} {s : State} (h : (Jvm.Cond.and given_1 narrow_1).before args s = true) (hr : rest_1_c.before args s = true) : ∃ (b : Addr) (xs : List Int32), zq_P b xs args s := by
  have hs := flat_of_before _ h
  have hq := flat_of_before _ hr
  have hc : (Cond.count 1).before args s = true := hs _ (by decide +kernel)
  have harr : (Cond.arrayOf (.arg 0) .int).before args s = true := hs _ (by decide +kernel)
  have hle : (Cond.le (.length (.arg 0)) (.int 2048)).before args s = true := hs _ (by decide +kernel)
  have hlen : (Cond.isInt (.length (.arg 0))).before args s = true := hq _ (by decide +kernel)
  have hall : (Cond.all (.arg 0) (.isInt (.elem (.arg 0) (.index 0)))).before args s = true := hq _ (by decide +kernel)
  obtain ⟨b, xs, hb, hx⟩ := State.ints_of_pre rfl harr hlen hall
  have hsm : xs.length < 2 ^ 31 := hx.choose_spec.2.2.2
  have hev : (Term.length (.arg 0)).eval args s none [] s = some (.int xs.length.toInt32) := hx.length_eval hb
  have hv := Cond.le_ints hev (show (Term.int 2048).eval args s none [] s = some (.int 2048) from rfl)
  have hd : xs.length.toInt32 ≤ 2048 := by
    simpa [Cond.before, Cond.holds, hv] using hle
  have hN : xs.length ≤ 2048 := (Int32.ofNat_le_ofNat hsm (by decide)).mp (show Int32.ofNat xs.length ≤ Int32.ofNat 2048 from hd)
  exact ⟨b, xs, Cond.one_arg hc (show args[0]? = some (.ref b) from hb), hx, hN, h⟩
theorem lw_comes (l : Launch) (hst : l.stackTraces = false) : Comes l x (Jvm.Cond.code x code maxLocals ret :: tables_1) room_1 (fun tb e args s => Calls_1 tb e args s ∧ rest_1 tb e args s ∧ Pre_1 tb e args s)
    (fun _ _ args s o t => lw_Q args s o t) := by
  intro p e ha hc hk s m args below hf hfit hheap happ hpre
  obtain ⟨b, xs, hP⟩ := lw_pre_spec hpre.2.2 hpre.2.1
  obtain ⟨k, o, h1, h2, h3, hQ⟩ := lw_walk l hst b xs p e ha hc hk s m args below hf ((Spec.applies_iff_loose hf).mp happ).1 hP trivial
  exact ⟨k, o, h1, h2, h3, hQ⟩
theorem lw_frame {s t : State} {o : Outcome} {args : Array Value} (h : Framed s o t [] 601024 7293034) :
    Framed s o t (fieldLocs frame_1_writes args s ++ arrayLocs frame_1_arrays args s ++ staticLocs frame_1_statics s) 601024 7293034 := h
theorem lw_limb (L : Cond) (hL : ∀ (args : Array Value) (s t : State), L.after args s (.returned (some (.int 1))) t = true) :
    ArmFor flags0 classFile x code maxLocals ret World_1 tables_1 room_1 Calls_1 rest_1 Pre_1
      (fun tb e a s o t => postC L tb e a s o t ∧ Framed s o t (fieldLocs frame_1_writes a s ++ arrayLocs frame_1_arrays a s ++ staticLocs frame_1_statics s) 601024 7293034) := by
  intro l hfl _ _ p e ha hc hk s m args below hf hfit hheap happ hpre
  have hst : l.stackTraces = false := by
    unfold Launch.stackTraces
    rw [hfl]
    decide +kernel
  obtain ⟨k, o, h1, h2, h3, rfl, hF⟩ := lw_comes l hst p e ha hc hk s m args below hf hfit hheap happ hpre
  exact ⟨k, _, h1, h2, h3, hL args s _, lw_frame hF⟩
theorem i_vc : Claimed_1_1 ∧ Claimed_1_2 := ⟨lw_limb limb_1_1 (fun args s t => by simp [limb_1_1, Cond.after, Cond.holds, Cond.value]), lw_limb limb_1_2 (fun args s t => Cond.after_iff.mpr (by
  first | (rw [show limb_1_2 = Cond.eq .result (.int 1) from rfl, Cond.eq_ints (x := 1) (y := 1) rfl rfl]; simp; done) | (simp [limb_1_2, Cond.value, Term.eval]; done)))⟩

