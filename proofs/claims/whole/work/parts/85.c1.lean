/-! THE CONSTRUCTORS -/
theorem zk_w {s : State} {args : Array Value} (hT : pz_T s) {w : Cond} (hm : w ∈ tables_1) (hk : pz_ok w = true) (hg : goodWord w = true) : w.before args s = true := word_at (State.WarmedH.refl s) (good_of_word hg) (hT w (List.mem_append_right _ hm) hk)
theorem zk_one {s : State} {args : Array Value} {c : Cond} (h : c.before args s = true) : ∀ w ∈ [c], w.before args s = true := fun w hw => by rw [List.mem_singleton.mp hw]; exact h
theorem zk_good {c : Cond} (h : (c.onTables && c.keeps) = true) : GoodIn [c] [c] := fun w hw => ⟨hw, Or.inl (by rw [List.mem_singleton.mp hw]; exact h)⟩
abbrev zc_M (l : Launch) (D : va_G) (cA : Nat → ClassId) (y : MethodName) (cc : ByteArray) (n : Nat) (rm : Room) (as : List Value) (w0 : va_W) (sz : Nat) (post : va_W → Prop) (mc ms : Nat) : Prop :=
  Met l y [.code y cc n none] rm (va_Pc as (fun U => U.heap.size = sz ∧ pz_T U ∧ va_P D pz_cl w0 U.heap ∧ va_K D pz_cl (pz_tys cA) U ∧ va_D (fun _ => True) w0)) (va_Qv post (fun w t => va_P D pz_cl w t.heap ∧ va_D (va_A w0 sz) w) (va_A w0 sz)) mc ms (va_A w0 sz)
section ZKN
variable {p : Program} {l : Launch} {e : Env} {R : Room} {s : State} {m : MethodId} {args : Array Value} {below : List Frame} {meth : Method} {c : Code} {H H0 : Heap} {locs : List Loc} {cells slots : Nat} {Q : State → Prop} {cc : ByteArray} {pc : Nat} {ls : Array Slot} {rest : List Value} {A : Nat → Prop} {D : va_G} {cA : Nat → ClassId} {ws : va_W}
/-- a new array, of a kind that the tables have -/
theorem zk_newa (hx : p.tables.exec = Jvm.exec) (hb : c.code = cc) (hT : pz_T s) {atype : ArrayType} (kd : Nat) {ty : FieldType} (hty : newarray.typeOf atype = ty) (hkd : (kd = 0 ∧ ty = .int) ∨ (kd = 1 ∧ ty = .boolean) ∨ (kd = 2 ∧ ty = .long)) (hK : va_K D pz_cl (pz_tys cA) s) (hP : va_P D pz_cl ws H) (hD : va_D A ws) (hS : va_S A H0 H locs) (hA : ∀ q, H0.size ≤ q → A q)
    {n : Int32} {N' : Nat} {a0 : vp_A} (ha : ∀ cA : ClassId, vp_cell cA a0 = arrV cA N' (fun _ => defaultValue ty)) (hn : ¬ n < 0) (hN : n.toNatClampNeg = N') (hbytes : N' * componentBytes ty ≤ 536870912) (hcells : cells + 1 ≤ R.cells) (hslots : slots + N' ≤ R.slots) (hdg : decode cc pc = .ok (.newarray atype, 2))
    (kk : ∀ (q : Nat) (H1 : Heap), va_P D pz_cl (ws ++ [(q, .inl (cA kd, a0))]) H1 → va_D A (ws ++ [(q, .inl (cA kd, a0))]) → va_S A H0 H1 locs →
      W p l e R s m args below meth c H1 locs (cells + 1) (slots + N') Q (F0 m (pc + 2) ls (.ref q :: rest))) : W p l e R s m args below meth c H locs cells slots Q (F0 m pc ls (.int n :: rest)) := by
  have harr : (Cond.arrayClass (newarray.typeOf atype)).before args s = true := by
    rw [hty]
    rcases hkd with ⟨-, rfl⟩ | ⟨-, rfl⟩ | ⟨-, rfl⟩
    · exact zk_w hT (List.mem_of_getElem? (i := 60) (by decide +kernel)) (by decide +kernel) (by decide +kernel)
    · exact zk_w hT (List.mem_of_getElem? (i := 61) (by decide +kernel)) (by decide +kernel) (by decide +kernel)
    · exact zk_w hT (List.mem_of_getElem? (i := 734) (by decide +kernel)) (by decide +kernel) (by decide +kernel)
  refine va_newa hx hb harr hty hK hP hD hS hA ha hn hN hbytes hcells hslots hdg (fun q cB H1 hK1 hP1 hD1 hS1 => ?_)
  have e : cB = cA kd := by
    have h1 := (hK1.2 3 (cB, ty) rfl).2
    rcases hkd with ⟨rfl, rfl⟩ | ⟨rfl, rfl⟩ | ⟨rfl, rfl⟩
    · exact Option.some.inj (h1.symm.trans (hK.2 0 (cA 0, .int) rfl).2)
    · exact Option.some.inj (h1.symm.trans (hK.2 1 (cA 1, .boolean) rfl).2)
    · exact Option.some.inj (h1.symm.trans (hK.2 2 (cA 2, .long) rfl).2)
  rw [e] at hP1 hD1
  exact kk q H1 hP1 hD1 hS1
end ZKN
def zy_5 : MethodName := ⟨"GateBench$Trail", "<init>", "()V"⟩
abbrev zb_5 : ByteArray := prog_6_method_1_code
theorem zd_5_0 : decode zb_5 0 = .ok (.aload_n 0, 1) := by decide +kernel
theorem zd_5_1 : decode zb_5 1 = .ok (.invokespecial 3, 3) := by decide +kernel
theorem zd_5_4 : decode zb_5 4 = .ok (.aload_n 0, 1) := by decide +kernel
theorem zd_5_5 : decode zb_5 5 = .ok (.sipush 4000, 3) := by decide +kernel
theorem zd_5_8 : decode zb_5 8 = .ok (.newarray .boolean, 2) := by decide +kernel
theorem zd_5_10 : decode zb_5 10 = .ok (.putfield 9, 3) := by decide +kernel
theorem zd_5_13 : decode zb_5 13 = .ok (.aload_n 0, 1) := by decide +kernel
theorem zd_5_14 : decode zb_5 14 = .ok (.sipush 4000, 3) := by decide +kernel
theorem zd_5_17 : decode zb_5 17 = .ok (.newarray .int, 2) := by decide +kernel
theorem zd_5_19 : decode zb_5 19 = .ok (.putfield 15, 3) := by decide +kernel
theorem zd_5_22 : decode zb_5 22 = .ok (.aload_n 0, 1) := by decide +kernel
theorem zd_5_23 : decode zb_5 23 = .ok (.sipush 2000, 3) := by decide +kernel
theorem zd_5_26 : decode zb_5 26 = .ok (.newarray .int, 2) := by decide +kernel
theorem zd_5_28 : decode zb_5 28 = .ok (.putfield 19, 3) := by decide +kernel
theorem zd_5_31 : decode zb_5 31 = .ok (.aload_n 0, 1) := by decide +kernel
theorem zd_5_32 : decode zb_5 32 = .ok (.bipush 12, 2) := by decide +kernel
theorem zd_5_34 : decode zb_5 34 = .ok (.newarray .int, 2) := by decide +kernel
theorem zd_5_36 : decode zb_5 36 = .ok (.putfield 22, 3) := by decide +kernel
theorem zd_5_39 : decode zb_5 39 = .ok (.return_, 1) := by decide +kernel
set_option maxHeartbeats 4000000 in
set_option maxRecDepth 100000 in
theorem cn_5 (l : Launch) (D : va_G) (cA : Nat → ClassId) (h0 sz : Nat) : zc_M l D cA zy_5 zb_5 1 { frames := 1, cells := 4, slots := 10012, locals := 12 } [.ref h0] [(h0, .inr (5, [.null, .null, .null, .null, .int 0, .int 0]))] sz (fun w => ∃ q1 q2 q3 q4 : Nat, w = [(h0, .inr (5, [.ref q1, .ref q2, .ref q3, .ref q4, .int 0, .int 0])), (q1, .inl (cA 1, 4000, .inl fun _ => 0)), (q2, .inl (cA 0, 4000, .inl fun _ => 0)), (q3, .inl (cA 0, 2000, .inl fun _ => 0)), (q4, .inl (cA 0, 12, .inl fun _ => 0))]) 4 10012 := by
  unfold zc_M
  refine Met.ofW (cc := zb_5) (maxL := 1) (ret := none) (by decide) rfl ?_
  intro p e s m args below meth c s₁ B hml hv
  obtain ⟨rfl, hsz, hT, hP, hK, hD0⟩ := hv
  have hx := B.exec
  have hb := B.bytes
  have hr := B.returns
  have hown : s.vm.findClass "GateBench$Trail" = some m.cls := findClass_of_methodNamed B.named
  have hlocks := B.notSynchronized
  have hin : meth.name = "<init>" := (name_of_methodNamed B.named B.method).1
  subst hsz
  have hD := hD0.self (sz := s.heap.size)
  generalize hAe : va_A [(h0, .inr (5, [.null, .null, .null, .null, .int 0, .int 0]))] s.heap.size = A at hD ⊢
  have hA : ∀ q : Nat, s.heap.size ≤ q → A q := fun q h => by rw [← hAe]; exact Or.inr h
  have hS : va_S A s.heap s.heap [] := va_S.rf
  have hP : va_P D pz_cl [(h0, .inr (5, [.null, .null, .null, .null, .int 0, .int 0]))] s.heap := hP
  have hl := lv_entry ([.ref h0]) (n := 1) (Nat.le_of_ble_eq_true rfl)
  rw [lg_entry_eq]
  generalize (lg_sl ([.ref h0]) ++ List.replicate (1 - (lg_sl ([.ref h0])).length) Slot.unset).toArray = ls at hl ⊢
  have hl : lv_has ls 1 [(0, .ref h0)] := hl
  refine lv_aload_n hx hb zd_5_0 rfl (lv_at hl 0 rfl) ?_
  refine W.objInit hx hb hown (zk_w hT (w := .methodLink "GateBench$Trail" 3 objectInit) (List.mem_of_getElem? (i := 121) (by decide +kernel)) (by decide +kernel) (by decide +kernel)) (zk_w hT (w := .instanceMethod objectInit) (List.mem_of_getElem? (i := 20) (by decide +kernel)) (by decide +kernel) (by decide +kernel)) (zk_w hT (w := .code objectInit ⟨#[0xb1]⟩ 1 none) (List.mem_of_getElem? (i := 21) (by decide +kernel)) (by decide +kernel) (by decide +kernel)) rfl (by rw [hml]; exact hl.1) rfl zd_5_1 (Nat.le_of_ble_eq_true rfl) (Nat.le_of_ble_eq_true rfl) ?_
  refine W.eq (g2 := F0 m 4 ls []) rfl ?_
  refine lv_aload_n hx hb zd_5_4 rfl (lv_at hl 0 rfl) ?_
  refine lv_sipush (v := 4000) hx hb zd_5_5 (by decide) ?_
  refine zk_newa (atype := .boolean) (ty := .boolean) (n := 4000) (N' := 4000) (a0 := (4000, .inl fun _ => 0)) hx hb hT 1 rfl (Or.inr (Or.inl ⟨rfl, rfl⟩)) hK hP hD hS hA (fun _ => rfl) (by decide) (by decide) (Nat.le_of_ble_eq_true rfl) (Nat.le_of_ble_eq_true rfl) (Nat.le_of_ble_eq_true rfl) zd_5_8 (fun q1 H hP hD hS => ?_)
  have hP : va_P D pz_cl [(h0, .inr (5, [.null, .null, .null, .null, .int 0, .int 0])), (q1, .inl (cA 1, 4000, .inl fun _ => 0))] H := hP
  have hD : va_D A [(h0, .inr (5, [.null, .null, .null, .null, .int 0, .int 0])), (q1, .inl (cA 1, 4000, .inl fun _ => 0))] := hD
  refine W.widen (k := 1) (n := 4000) (Nat.le_of_ble_eq_true rfl) (Nat.le_of_ble_eq_true rfl) ?_
  refine va_putF (D := D) (ci := 5) (v := .ref q1) (ty := (.array .boolean)) (own := "GateBench$Trail") (ref := "GateBench$Trail") (C := pz_cn 5) (T := pz_u 5) (N := pz_nf 5) hx hb (pz_lays hT 5 (pz_clq 5 (by decide)) _) (fun _ h => h) (pz_ft 5) (pz_ftok (pz_clq 5 (by decide))) (pz_nms (pz_clq 5 (by decide))) hown hK hP hD hS 0 rfl (pz_clq 5 (by decide)) 0 (by decide) (zk_w hT (w := .fieldLink "GateBench$Trail" 9 "GateBench$Trail" "holds" "[Z") (List.mem_of_getElem? (i := 122) (by decide +kernel)) (by decide +kernel) (by decide +kernel)) (fun _ h9 => h9) rfl hin rfl (by decide +kernel) rfl rfl (Nat.le_of_ble_eq_true rfl) zd_5_10 (fun H locs hP hD hS => ?_)
  have hP : va_P D pz_cl [(h0, .inr (5, [.ref q1, .null, .null, .null, .int 0, .int 0])), (q1, .inl (cA 1, 4000, .inl fun _ => 0))] H := hP
  have hD : va_D A [(h0, .inr (5, [.ref q1, .null, .null, .null, .int 0, .int 0])), (q1, .inl (cA 1, 4000, .inl fun _ => 0))] := hD
  refine lv_aload_n hx hb zd_5_13 rfl (lv_at hl 0 rfl) ?_
  refine lv_sipush (v := 4000) hx hb zd_5_14 (by decide) ?_
  refine zk_newa (atype := .int) (ty := .int) (n := 4000) (N' := 4000) (a0 := (4000, .inl fun _ => 0)) hx hb hT 0 rfl (Or.inl ⟨rfl, rfl⟩) hK hP hD hS hA (fun _ => rfl) (by decide) (by decide) (Nat.le_of_ble_eq_true rfl) (Nat.le_of_ble_eq_true rfl) (Nat.le_of_ble_eq_true rfl) zd_5_17 (fun q2 H hP hD hS => ?_)
  have hP : va_P D pz_cl [(h0, .inr (5, [.ref q1, .null, .null, .null, .int 0, .int 0])), (q1, .inl (cA 1, 4000, .inl fun _ => 0)), (q2, .inl (cA 0, 4000, .inl fun _ => 0))] H := hP
  have hD : va_D A [(h0, .inr (5, [.ref q1, .null, .null, .null, .int 0, .int 0])), (q1, .inl (cA 1, 4000, .inl fun _ => 0)), (q2, .inl (cA 0, 4000, .inl fun _ => 0))] := hD
  refine W.widen (k := 2) (n := 8000) (Nat.le_of_ble_eq_true rfl) (Nat.le_of_ble_eq_true rfl) ?_
  refine va_putF (D := D) (ci := 5) (v := .ref q2) (ty := (.array .int)) (own := "GateBench$Trail") (ref := "GateBench$Trail") (C := pz_cn 5) (T := pz_u 5) (N := pz_nf 5) hx hb (pz_lays hT 5 (pz_clq 5 (by decide)) _) (fun _ h => h) (pz_ft 5) (pz_ftok (pz_clq 5 (by decide))) (pz_nms (pz_clq 5 (by decide))) hown hK hP hD hS 0 rfl (pz_clq 5 (by decide)) 1 (by decide) (zk_w hT (w := .fieldLink "GateBench$Trail" 15 "GateBench$Trail" "forcedBy" "[I") (List.mem_of_getElem? (i := 124) (by decide +kernel)) (by decide +kernel) (by decide +kernel)) (fun _ h9 => h9) rfl hin rfl (by decide +kernel) rfl rfl (Nat.le_of_ble_eq_true rfl) zd_5_19 (fun H locs hP hD hS => ?_)
  have hP : va_P D pz_cl [(h0, .inr (5, [.ref q1, .ref q2, .null, .null, .int 0, .int 0])), (q1, .inl (cA 1, 4000, .inl fun _ => 0)), (q2, .inl (cA 0, 4000, .inl fun _ => 0))] H := hP
  have hD : va_D A [(h0, .inr (5, [.ref q1, .ref q2, .null, .null, .int 0, .int 0])), (q1, .inl (cA 1, 4000, .inl fun _ => 0)), (q2, .inl (cA 0, 4000, .inl fun _ => 0))] := hD
  refine lv_aload_n hx hb zd_5_22 rfl (lv_at hl 0 rfl) ?_
  refine lv_sipush (v := 2000) hx hb zd_5_23 (by decide) ?_
  refine zk_newa (atype := .int) (ty := .int) (n := 2000) (N' := 2000) (a0 := (2000, .inl fun _ => 0)) hx hb hT 0 rfl (Or.inl ⟨rfl, rfl⟩) hK hP hD hS hA (fun _ => rfl) (by decide) (by decide) (Nat.le_of_ble_eq_true rfl) (Nat.le_of_ble_eq_true rfl) (Nat.le_of_ble_eq_true rfl) zd_5_26 (fun q3 H hP hD hS => ?_)
  have hP : va_P D pz_cl [(h0, .inr (5, [.ref q1, .ref q2, .null, .null, .int 0, .int 0])), (q1, .inl (cA 1, 4000, .inl fun _ => 0)), (q2, .inl (cA 0, 4000, .inl fun _ => 0)), (q3, .inl (cA 0, 2000, .inl fun _ => 0))] H := hP
  have hD : va_D A [(h0, .inr (5, [.ref q1, .ref q2, .null, .null, .int 0, .int 0])), (q1, .inl (cA 1, 4000, .inl fun _ => 0)), (q2, .inl (cA 0, 4000, .inl fun _ => 0)), (q3, .inl (cA 0, 2000, .inl fun _ => 0))] := hD
  refine W.widen (k := 3) (n := 10000) (Nat.le_of_ble_eq_true rfl) (Nat.le_of_ble_eq_true rfl) ?_
  refine va_putF (D := D) (ci := 5) (v := .ref q3) (ty := (.array .int)) (own := "GateBench$Trail") (ref := "GateBench$Trail") (C := pz_cn 5) (T := pz_u 5) (N := pz_nf 5) hx hb (pz_lays hT 5 (pz_clq 5 (by decide)) _) (fun _ h => h) (pz_ft 5) (pz_ftok (pz_clq 5 (by decide))) (pz_nms (pz_clq 5 (by decide))) hown hK hP hD hS 0 rfl (pz_clq 5 (by decide)) 2 (by decide) (zk_w hT (w := .fieldLink "GateBench$Trail" 19 "GateBench$Trail" "order" "[I") (List.mem_of_getElem? (i := 126) (by decide +kernel)) (by decide +kernel) (by decide +kernel)) (fun _ h9 => h9) rfl hin rfl (by decide +kernel) rfl rfl (Nat.le_of_ble_eq_true rfl) zd_5_28 (fun H locs hP hD hS => ?_)
  have hP : va_P D pz_cl [(h0, .inr (5, [.ref q1, .ref q2, .ref q3, .null, .int 0, .int 0])), (q1, .inl (cA 1, 4000, .inl fun _ => 0)), (q2, .inl (cA 0, 4000, .inl fun _ => 0)), (q3, .inl (cA 0, 2000, .inl fun _ => 0))] H := hP
  have hD : va_D A [(h0, .inr (5, [.ref q1, .ref q2, .ref q3, .null, .int 0, .int 0])), (q1, .inl (cA 1, 4000, .inl fun _ => 0)), (q2, .inl (cA 0, 4000, .inl fun _ => 0)), (q3, .inl (cA 0, 2000, .inl fun _ => 0))] := hD
  refine lv_aload_n hx hb zd_5_31 rfl (lv_at hl 0 rfl) ?_
  refine lv_bipush (v := 12) hx hb zd_5_32 (by decide) ?_
  refine zk_newa (atype := .int) (ty := .int) (n := 12) (N' := 12) (a0 := (12, .inl fun _ => 0)) hx hb hT 0 rfl (Or.inl ⟨rfl, rfl⟩) hK hP hD hS hA (fun _ => rfl) (by decide) (by decide) (Nat.le_of_ble_eq_true rfl) (Nat.le_of_ble_eq_true rfl) (Nat.le_of_ble_eq_true rfl) zd_5_34 (fun q4 H hP hD hS => ?_)
  have hP : va_P D pz_cl [(h0, .inr (5, [.ref q1, .ref q2, .ref q3, .null, .int 0, .int 0])), (q1, .inl (cA 1, 4000, .inl fun _ => 0)), (q2, .inl (cA 0, 4000, .inl fun _ => 0)), (q3, .inl (cA 0, 2000, .inl fun _ => 0)), (q4, .inl (cA 0, 12, .inl fun _ => 0))] H := hP
  have hD : va_D A [(h0, .inr (5, [.ref q1, .ref q2, .ref q3, .null, .int 0, .int 0])), (q1, .inl (cA 1, 4000, .inl fun _ => 0)), (q2, .inl (cA 0, 4000, .inl fun _ => 0)), (q3, .inl (cA 0, 2000, .inl fun _ => 0)), (q4, .inl (cA 0, 12, .inl fun _ => 0))] := hD
  refine W.widen (k := 4) (n := 10012) (Nat.le_of_ble_eq_true rfl) (Nat.le_of_ble_eq_true rfl) ?_
  refine va_putF (D := D) (ci := 5) (v := .ref q4) (ty := (.array .int)) (own := "GateBench$Trail") (ref := "GateBench$Trail") (C := pz_cn 5) (T := pz_u 5) (N := pz_nf 5) hx hb (pz_lays hT 5 (pz_clq 5 (by decide)) _) (fun _ h => h) (pz_ft 5) (pz_ftok (pz_clq 5 (by decide))) (pz_nms (pz_clq 5 (by decide))) hown hK hP hD hS 0 rfl (pz_clq 5 (by decide)) 3 (by decide) (zk_w hT (w := .fieldLink "GateBench$Trail" 22 "GateBench$Trail" "levelStart" "[I") (List.mem_of_getElem? (i := 128) (by decide +kernel)) (by decide +kernel) (by decide +kernel)) (fun _ h9 => h9) rfl hin rfl (by decide +kernel) rfl rfl (Nat.le_of_ble_eq_true rfl) zd_5_36 (fun H locs hP hD hS => ?_)
  have hP : va_P D pz_cl [(h0, .inr (5, [.ref q1, .ref q2, .ref q3, .ref q4, .int 0, .int 0])), (q1, .inl (cA 1, 4000, .inl fun _ => 0)), (q2, .inl (cA 0, 4000, .inl fun _ => 0)), (q3, .inl (cA 0, 2000, .inl fun _ => 0)), (q4, .inl (cA 0, 12, .inl fun _ => 0))] H := hP
  have hD : va_D A [(h0, .inr (5, [.ref q1, .ref q2, .ref q3, .ref q4, .int 0, .int 0])), (q1, .inl (cA 1, 4000, .inl fun _ => 0)), (q2, .inl (cA 0, 4000, .inl fun _ => 0)), (q3, .inl (cA 0, 2000, .inl fun _ => 0)), (q4, .inl (cA 0, 12, .inl fun _ => 0))] := hD
  exact W.vret hx hb hr (fun t ht hW => ⟨⟨[(h0, .inr (5, [.ref q1, .ref q2, .ref q3, .ref q4, .int 0, .int 0])), (q1, .inl (cA 1, 4000, .inl fun _ => 0)), (q2, .inl (cA 0, 4000, .inl fun _ => 0)), (q3, .inl (cA 0, 2000, .inl fun _ => 0)), (q4, .inl (cA 0, 12, .inl fun _ => 0))], rfl, ⟨q1, q2, q3, q4, rfl⟩, by rw [ht]; exact hP, hD⟩, hS.F ht⟩) hS.2.2 zd_5_39
def zy_1 : MethodName := ⟨"GateBench$Circuit", "<init>", "()V"⟩
abbrev zb_1 : ByteArray := prog_3_method_1_code
theorem zd_1_0 : decode zb_1 0 = .ok (.aload_n 0, 1) := by decide +kernel
theorem zd_1_1 : decode zb_1 1 = .ok (.invokespecial 3, 3) := by decide +kernel
theorem zd_1_4 : decode zb_1 4 = .ok (.aload_n 0, 1) := by decide +kernel
theorem zd_1_5 : decode zb_1 5 = .ok (.sipush 2000, 3) := by decide +kernel
theorem zd_1_8 : decode zb_1 8 = .ok (.newarray .int, 2) := by decide +kernel
theorem zd_1_10 : decode zb_1 10 = .ok (.putfield 9, 3) := by decide +kernel
theorem zd_1_13 : decode zb_1 13 = .ok (.aload_n 0, 1) := by decide +kernel
theorem zd_1_14 : decode zb_1 14 = .ok (.sipush 2000, 3) := by decide +kernel
theorem zd_1_17 : decode zb_1 17 = .ok (.newarray .int, 2) := by decide +kernel
theorem zd_1_19 : decode zb_1 19 = .ok (.putfield 15, 3) := by decide +kernel
theorem zd_1_22 : decode zb_1 22 = .ok (.aload_n 0, 1) := by decide +kernel
theorem zd_1_23 : decode zb_1 23 = .ok (.sipush 2000, 3) := by decide +kernel
theorem zd_1_26 : decode zb_1 26 = .ok (.newarray .int, 2) := by decide +kernel
theorem zd_1_28 : decode zb_1 28 = .ok (.putfield 18, 3) := by decide +kernel
theorem zd_1_31 : decode zb_1 31 = .ok (.aload_n 0, 1) := by decide +kernel
theorem zd_1_32 : decode zb_1 32 = .ok (.sipush 2000, 3) := by decide +kernel
theorem zd_1_35 : decode zb_1 35 = .ok (.newarray .boolean, 2) := by decide +kernel
theorem zd_1_37 : decode zb_1 37 = .ok (.putfield 21, 3) := by decide +kernel
theorem zd_1_40 : decode zb_1 40 = .ok (.aload_n 0, 1) := by decide +kernel
theorem zd_1_41 : decode zb_1 41 = .ok (.sipush 2000, 3) := by decide +kernel
theorem zd_1_44 : decode zb_1 44 = .ok (.newarray .boolean, 2) := by decide +kernel
theorem zd_1_46 : decode zb_1 46 = .ok (.putfield 25, 3) := by decide +kernel
theorem zd_1_49 : decode zb_1 49 = .ok (.aload_n 0, 1) := by decide +kernel
theorem zd_1_50 : decode zb_1 50 = .ok (.bipush 12, 2) := by decide +kernel
theorem zd_1_52 : decode zb_1 52 = .ok (.newarray .int, 2) := by decide +kernel
theorem zd_1_54 : decode zb_1 54 = .ok (.putfield 28, 3) := by decide +kernel
theorem zd_1_57 : decode zb_1 57 = .ok (.aload_n 0, 1) := by decide +kernel
theorem zd_1_58 : decode zb_1 58 = .ok (.getfield 9, 3) := by decide +kernel
theorem zd_1_61 : decode zb_1 61 = .ok (.iconst 0, 1) := by decide +kernel
theorem zd_1_62 : decode zb_1 62 = .ok (.iconst (-1), 1) := by decide +kernel
theorem zd_1_63 : decode zb_1 63 = .ok (.iastore, 1) := by decide +kernel
theorem zd_1_64 : decode zb_1 64 = .ok (.aload_n 0, 1) := by decide +kernel
theorem zd_1_65 : decode zb_1 65 = .ok (.iconst 1, 1) := by decide +kernel
theorem zd_1_66 : decode zb_1 66 = .ok (.putfield 31, 3) := by decide +kernel
theorem zd_1_69 : decode zb_1 69 = .ok (.return_, 1) := by decide +kernel
set_option maxHeartbeats 4000000 in
set_option maxRecDepth 100000 in
theorem cn_1 (l : Launch) (D : va_G) (cA : Nat → ClassId) (h0 sz : Nat) : zc_M l D cA zy_1 zb_1 1 { frames := 1, cells := 6, slots := 10012, locals := 12 } [.ref h0] [(h0, .inr (1, [.null, .null, .null, .null, .null, .null, .int 0, .int 0]))] sz (fun w => ∃ q1 q2 q3 q4 q5 q6 : Nat, w = [(h0, .inr (1, [.ref q1, .ref q2, .ref q3, .ref q4, .ref q5, .ref q6, .int 1, .int 0])), (q1, .inl (cA 0, 2000, .inl (upd (fun _ => 0) 0 (-1)))), (q2, .inl (cA 0, 2000, .inl fun _ => 0)), (q3, .inl (cA 0, 2000, .inl fun _ => 0)), (q4, .inl (cA 1, 2000, .inl fun _ => 0)), (q5, .inl (cA 1, 2000, .inl fun _ => 0)), (q6, .inl (cA 0, 12, .inl fun _ => 0))]) 6 10012 := by
  unfold zc_M
  refine Met.ofW (cc := zb_1) (maxL := 1) (ret := none) (by decide) rfl ?_
  intro p e s m args below meth c s₁ B hml hv
  obtain ⟨rfl, hsz, hT, hP, hK, hD0⟩ := hv
  have hx := B.exec
  have hb := B.bytes
  have hr := B.returns
  have hown : s.vm.findClass "GateBench$Circuit" = some m.cls := findClass_of_methodNamed B.named
  have hlocks := B.notSynchronized
  have hin : meth.name = "<init>" := (name_of_methodNamed B.named B.method).1
  subst hsz
  have hD := hD0.self (sz := s.heap.size)
  generalize hAe : va_A [(h0, .inr (1, [.null, .null, .null, .null, .null, .null, .int 0, .int 0]))] s.heap.size = A at hD ⊢
  have hA : ∀ q : Nat, s.heap.size ≤ q → A q := fun q h => by rw [← hAe]; exact Or.inr h
  have hS : va_S A s.heap s.heap [] := va_S.rf
  have hP : va_P D pz_cl [(h0, .inr (1, [.null, .null, .null, .null, .null, .null, .int 0, .int 0]))] s.heap := hP
  have hl := lv_entry ([.ref h0]) (n := 1) (Nat.le_of_ble_eq_true rfl)
  rw [lg_entry_eq]
  generalize (lg_sl ([.ref h0]) ++ List.replicate (1 - (lg_sl ([.ref h0])).length) Slot.unset).toArray = ls at hl ⊢
  have hl : lv_has ls 1 [(0, .ref h0)] := hl
  refine lv_aload_n hx hb zd_1_0 rfl (lv_at hl 0 rfl) ?_
  refine W.objInit hx hb hown (zk_w hT (w := .methodLink "GateBench$Circuit" 3 objectInit) (List.mem_of_getElem? (i := 27) (by decide +kernel)) (by decide +kernel) (by decide +kernel)) (zk_w hT (w := .instanceMethod objectInit) (List.mem_of_getElem? (i := 20) (by decide +kernel)) (by decide +kernel) (by decide +kernel)) (zk_w hT (w := .code objectInit ⟨#[0xb1]⟩ 1 none) (List.mem_of_getElem? (i := 21) (by decide +kernel)) (by decide +kernel) (by decide +kernel)) rfl (by rw [hml]; exact hl.1) rfl zd_1_1 (Nat.le_of_ble_eq_true rfl) (Nat.le_of_ble_eq_true rfl) ?_
  refine W.eq (g2 := F0 m 4 ls []) rfl ?_
  refine lv_aload_n hx hb zd_1_4 rfl (lv_at hl 0 rfl) ?_
  refine lv_sipush (v := 2000) hx hb zd_1_5 (by decide) ?_
  refine zk_newa (atype := .int) (ty := .int) (n := 2000) (N' := 2000) (a0 := (2000, .inl fun _ => 0)) hx hb hT 0 rfl (Or.inl ⟨rfl, rfl⟩) hK hP hD hS hA (fun _ => rfl) (by decide) (by decide) (Nat.le_of_ble_eq_true rfl) (Nat.le_of_ble_eq_true rfl) (Nat.le_of_ble_eq_true rfl) zd_1_8 (fun q1 H hP hD hS => ?_)
  have hP : va_P D pz_cl [(h0, .inr (1, [.null, .null, .null, .null, .null, .null, .int 0, .int 0])), (q1, .inl (cA 0, 2000, .inl fun _ => 0))] H := hP
  have hD : va_D A [(h0, .inr (1, [.null, .null, .null, .null, .null, .null, .int 0, .int 0])), (q1, .inl (cA 0, 2000, .inl fun _ => 0))] := hD
  refine W.widen (k := 1) (n := 2000) (Nat.le_of_ble_eq_true rfl) (Nat.le_of_ble_eq_true rfl) ?_
  refine va_putF (D := D) (ci := 1) (v := .ref q1) (ty := (.array .int)) (own := "GateBench$Circuit") (ref := "GateBench$Circuit") (C := pz_cn 1) (T := pz_u 1) (N := pz_nf 1) hx hb (pz_lays hT 1 (pz_clq 1 (by decide)) _) (fun _ h => h) (pz_ft 1) (pz_ftok (pz_clq 1 (by decide))) (pz_nms (pz_clq 1 (by decide))) hown hK hP hD hS 0 rfl (pz_clq 1 (by decide)) 0 (by decide) (zk_w hT (w := .fieldLink "GateBench$Circuit" 9 "GateBench$Circuit" "chooser" "[I") (List.mem_of_getElem? (i := 28) (by decide +kernel)) (by decide +kernel) (by decide +kernel)) (fun _ h9 => h9) rfl hin rfl (by decide +kernel) rfl rfl (Nat.le_of_ble_eq_true rfl) zd_1_10 (fun H locs hP hD hS => ?_)
  have hP : va_P D pz_cl [(h0, .inr (1, [.ref q1, .null, .null, .null, .null, .null, .int 0, .int 0])), (q1, .inl (cA 0, 2000, .inl fun _ => 0))] H := hP
  have hD : va_D A [(h0, .inr (1, [.ref q1, .null, .null, .null, .null, .null, .int 0, .int 0])), (q1, .inl (cA 0, 2000, .inl fun _ => 0))] := hD
  refine lv_aload_n hx hb zd_1_13 rfl (lv_at hl 0 rfl) ?_
  refine lv_sipush (v := 2000) hx hb zd_1_14 (by decide) ?_
  refine zk_newa (atype := .int) (ty := .int) (n := 2000) (N' := 2000) (a0 := (2000, .inl fun _ => 0)) hx hb hT 0 rfl (Or.inl ⟨rfl, rfl⟩) hK hP hD hS hA (fun _ => rfl) (by decide) (by decide) (Nat.le_of_ble_eq_true rfl) (Nat.le_of_ble_eq_true rfl) (Nat.le_of_ble_eq_true rfl) zd_1_17 (fun q2 H hP hD hS => ?_)
  have hP : va_P D pz_cl [(h0, .inr (1, [.ref q1, .null, .null, .null, .null, .null, .int 0, .int 0])), (q1, .inl (cA 0, 2000, .inl fun _ => 0)), (q2, .inl (cA 0, 2000, .inl fun _ => 0))] H := hP
  have hD : va_D A [(h0, .inr (1, [.ref q1, .null, .null, .null, .null, .null, .int 0, .int 0])), (q1, .inl (cA 0, 2000, .inl fun _ => 0)), (q2, .inl (cA 0, 2000, .inl fun _ => 0))] := hD
  refine W.widen (k := 2) (n := 4000) (Nat.le_of_ble_eq_true rfl) (Nat.le_of_ble_eq_true rfl) ?_
  refine va_putF (D := D) (ci := 1) (v := .ref q2) (ty := (.array .int)) (own := "GateBench$Circuit") (ref := "GateBench$Circuit") (C := pz_cn 1) (T := pz_u 1) (N := pz_nf 1) hx hb (pz_lays hT 1 (pz_clq 1 (by decide)) _) (fun _ h => h) (pz_ft 1) (pz_ftok (pz_clq 1 (by decide))) (pz_nms (pz_clq 1 (by decide))) hown hK hP hD hS 0 rfl (pz_clq 1 (by decide)) 1 (by decide) (zk_w hT (w := .fieldLink "GateBench$Circuit" 15 "GateBench$Circuit" "ifTrue" "[I") (List.mem_of_getElem? (i := 29) (by decide +kernel)) (by decide +kernel) (by decide +kernel)) (fun _ h9 => h9) rfl hin rfl (by decide +kernel) rfl rfl (Nat.le_of_ble_eq_true rfl) zd_1_19 (fun H locs hP hD hS => ?_)
  have hP : va_P D pz_cl [(h0, .inr (1, [.ref q1, .ref q2, .null, .null, .null, .null, .int 0, .int 0])), (q1, .inl (cA 0, 2000, .inl fun _ => 0)), (q2, .inl (cA 0, 2000, .inl fun _ => 0))] H := hP
  have hD : va_D A [(h0, .inr (1, [.ref q1, .ref q2, .null, .null, .null, .null, .int 0, .int 0])), (q1, .inl (cA 0, 2000, .inl fun _ => 0)), (q2, .inl (cA 0, 2000, .inl fun _ => 0))] := hD
  refine lv_aload_n hx hb zd_1_22 rfl (lv_at hl 0 rfl) ?_
  refine lv_sipush (v := 2000) hx hb zd_1_23 (by decide) ?_
  refine zk_newa (atype := .int) (ty := .int) (n := 2000) (N' := 2000) (a0 := (2000, .inl fun _ => 0)) hx hb hT 0 rfl (Or.inl ⟨rfl, rfl⟩) hK hP hD hS hA (fun _ => rfl) (by decide) (by decide) (Nat.le_of_ble_eq_true rfl) (Nat.le_of_ble_eq_true rfl) (Nat.le_of_ble_eq_true rfl) zd_1_26 (fun q3 H hP hD hS => ?_)
  have hP : va_P D pz_cl [(h0, .inr (1, [.ref q1, .ref q2, .null, .null, .null, .null, .int 0, .int 0])), (q1, .inl (cA 0, 2000, .inl fun _ => 0)), (q2, .inl (cA 0, 2000, .inl fun _ => 0)), (q3, .inl (cA 0, 2000, .inl fun _ => 0))] H := hP
  have hD : va_D A [(h0, .inr (1, [.ref q1, .ref q2, .null, .null, .null, .null, .int 0, .int 0])), (q1, .inl (cA 0, 2000, .inl fun _ => 0)), (q2, .inl (cA 0, 2000, .inl fun _ => 0)), (q3, .inl (cA 0, 2000, .inl fun _ => 0))] := hD
  refine W.widen (k := 3) (n := 6000) (Nat.le_of_ble_eq_true rfl) (Nat.le_of_ble_eq_true rfl) ?_
  refine va_putF (D := D) (ci := 1) (v := .ref q3) (ty := (.array .int)) (own := "GateBench$Circuit") (ref := "GateBench$Circuit") (C := pz_cn 1) (T := pz_u 1) (N := pz_nf 1) hx hb (pz_lays hT 1 (pz_clq 1 (by decide)) _) (fun _ h => h) (pz_ft 1) (pz_ftok (pz_clq 1 (by decide))) (pz_nms (pz_clq 1 (by decide))) hown hK hP hD hS 0 rfl (pz_clq 1 (by decide)) 2 (by decide) (zk_w hT (w := .fieldLink "GateBench$Circuit" 18 "GateBench$Circuit" "ifFalse" "[I") (List.mem_of_getElem? (i := 30) (by decide +kernel)) (by decide +kernel) (by decide +kernel)) (fun _ h9 => h9) rfl hin rfl (by decide +kernel) rfl rfl (Nat.le_of_ble_eq_true rfl) zd_1_28 (fun H locs hP hD hS => ?_)
  have hP : va_P D pz_cl [(h0, .inr (1, [.ref q1, .ref q2, .ref q3, .null, .null, .null, .int 0, .int 0])), (q1, .inl (cA 0, 2000, .inl fun _ => 0)), (q2, .inl (cA 0, 2000, .inl fun _ => 0)), (q3, .inl (cA 0, 2000, .inl fun _ => 0))] H := hP
  have hD : va_D A [(h0, .inr (1, [.ref q1, .ref q2, .ref q3, .null, .null, .null, .int 0, .int 0])), (q1, .inl (cA 0, 2000, .inl fun _ => 0)), (q2, .inl (cA 0, 2000, .inl fun _ => 0)), (q3, .inl (cA 0, 2000, .inl fun _ => 0))] := hD
  refine lv_aload_n hx hb zd_1_31 rfl (lv_at hl 0 rfl) ?_
  refine lv_sipush (v := 2000) hx hb zd_1_32 (by decide) ?_
  refine zk_newa (atype := .boolean) (ty := .boolean) (n := 2000) (N' := 2000) (a0 := (2000, .inl fun _ => 0)) hx hb hT 1 rfl (Or.inr (Or.inl ⟨rfl, rfl⟩)) hK hP hD hS hA (fun _ => rfl) (by decide) (by decide) (Nat.le_of_ble_eq_true rfl) (Nat.le_of_ble_eq_true rfl) (Nat.le_of_ble_eq_true rfl) zd_1_35 (fun q4 H hP hD hS => ?_)
  have hP : va_P D pz_cl [(h0, .inr (1, [.ref q1, .ref q2, .ref q3, .null, .null, .null, .int 0, .int 0])), (q1, .inl (cA 0, 2000, .inl fun _ => 0)), (q2, .inl (cA 0, 2000, .inl fun _ => 0)), (q3, .inl (cA 0, 2000, .inl fun _ => 0)), (q4, .inl (cA 1, 2000, .inl fun _ => 0))] H := hP
  have hD : va_D A [(h0, .inr (1, [.ref q1, .ref q2, .ref q3, .null, .null, .null, .int 0, .int 0])), (q1, .inl (cA 0, 2000, .inl fun _ => 0)), (q2, .inl (cA 0, 2000, .inl fun _ => 0)), (q3, .inl (cA 0, 2000, .inl fun _ => 0)), (q4, .inl (cA 1, 2000, .inl fun _ => 0))] := hD
  refine W.widen (k := 4) (n := 8000) (Nat.le_of_ble_eq_true rfl) (Nat.le_of_ble_eq_true rfl) ?_
  refine va_putF (D := D) (ci := 1) (v := .ref q4) (ty := (.array .boolean)) (own := "GateBench$Circuit") (ref := "GateBench$Circuit") (C := pz_cn 1) (T := pz_u 1) (N := pz_nf 1) hx hb (pz_lays hT 1 (pz_clq 1 (by decide)) _) (fun _ h => h) (pz_ft 1) (pz_ftok (pz_clq 1 (by decide))) (pz_nms (pz_clq 1 (by decide))) hown hK hP hD hS 0 rfl (pz_clq 1 (by decide)) 3 (by decide) (zk_w hT (w := .fieldLink "GateBench$Circuit" 21 "GateBench$Circuit" "truth" "[Z") (List.mem_of_getElem? (i := 31) (by decide +kernel)) (by decide +kernel) (by decide +kernel)) (fun _ h9 => h9) rfl hin rfl (by decide +kernel) rfl rfl (Nat.le_of_ble_eq_true rfl) zd_1_37 (fun H locs hP hD hS => ?_)
  have hP : va_P D pz_cl [(h0, .inr (1, [.ref q1, .ref q2, .ref q3, .ref q4, .null, .null, .int 0, .int 0])), (q1, .inl (cA 0, 2000, .inl fun _ => 0)), (q2, .inl (cA 0, 2000, .inl fun _ => 0)), (q3, .inl (cA 0, 2000, .inl fun _ => 0)), (q4, .inl (cA 1, 2000, .inl fun _ => 0))] H := hP
  have hD : va_D A [(h0, .inr (1, [.ref q1, .ref q2, .ref q3, .ref q4, .null, .null, .int 0, .int 0])), (q1, .inl (cA 0, 2000, .inl fun _ => 0)), (q2, .inl (cA 0, 2000, .inl fun _ => 0)), (q3, .inl (cA 0, 2000, .inl fun _ => 0)), (q4, .inl (cA 1, 2000, .inl fun _ => 0))] := hD
  refine lv_aload_n hx hb zd_1_40 rfl (lv_at hl 0 rfl) ?_
  refine lv_sipush (v := 2000) hx hb zd_1_41 (by decide) ?_
  refine zk_newa (atype := .boolean) (ty := .boolean) (n := 2000) (N' := 2000) (a0 := (2000, .inl fun _ => 0)) hx hb hT 1 rfl (Or.inr (Or.inl ⟨rfl, rfl⟩)) hK hP hD hS hA (fun _ => rfl) (by decide) (by decide) (Nat.le_of_ble_eq_true rfl) (Nat.le_of_ble_eq_true rfl) (Nat.le_of_ble_eq_true rfl) zd_1_44 (fun q5 H hP hD hS => ?_)
  have hP : va_P D pz_cl [(h0, .inr (1, [.ref q1, .ref q2, .ref q3, .ref q4, .null, .null, .int 0, .int 0])), (q1, .inl (cA 0, 2000, .inl fun _ => 0)), (q2, .inl (cA 0, 2000, .inl fun _ => 0)), (q3, .inl (cA 0, 2000, .inl fun _ => 0)), (q4, .inl (cA 1, 2000, .inl fun _ => 0)), (q5, .inl (cA 1, 2000, .inl fun _ => 0))] H := hP
  have hD : va_D A [(h0, .inr (1, [.ref q1, .ref q2, .ref q3, .ref q4, .null, .null, .int 0, .int 0])), (q1, .inl (cA 0, 2000, .inl fun _ => 0)), (q2, .inl (cA 0, 2000, .inl fun _ => 0)), (q3, .inl (cA 0, 2000, .inl fun _ => 0)), (q4, .inl (cA 1, 2000, .inl fun _ => 0)), (q5, .inl (cA 1, 2000, .inl fun _ => 0))] := hD
  refine W.widen (k := 5) (n := 10000) (Nat.le_of_ble_eq_true rfl) (Nat.le_of_ble_eq_true rfl) ?_
  refine va_putF (D := D) (ci := 1) (v := .ref q5) (ty := (.array .boolean)) (own := "GateBench$Circuit") (ref := "GateBench$Circuit") (C := pz_cn 1) (T := pz_u 1) (N := pz_nf 1) hx hb (pz_lays hT 1 (pz_clq 1 (by decide)) _) (fun _ h => h) (pz_ft 1) (pz_ftok (pz_clq 1 (by decide))) (pz_nms (pz_clq 1 (by decide))) hown hK hP hD hS 0 rfl (pz_clq 1 (by decide)) 4 (by decide) (zk_w hT (w := .fieldLink "GateBench$Circuit" 25 "GateBench$Circuit" "matters" "[Z") (List.mem_of_getElem? (i := 33) (by decide +kernel)) (by decide +kernel) (by decide +kernel)) (fun _ h9 => h9) rfl hin rfl (by decide +kernel) rfl rfl (Nat.le_of_ble_eq_true rfl) zd_1_46 (fun H locs hP hD hS => ?_)
  have hP : va_P D pz_cl [(h0, .inr (1, [.ref q1, .ref q2, .ref q3, .ref q4, .ref q5, .null, .int 0, .int 0])), (q1, .inl (cA 0, 2000, .inl fun _ => 0)), (q2, .inl (cA 0, 2000, .inl fun _ => 0)), (q3, .inl (cA 0, 2000, .inl fun _ => 0)), (q4, .inl (cA 1, 2000, .inl fun _ => 0)), (q5, .inl (cA 1, 2000, .inl fun _ => 0))] H := hP
  have hD : va_D A [(h0, .inr (1, [.ref q1, .ref q2, .ref q3, .ref q4, .ref q5, .null, .int 0, .int 0])), (q1, .inl (cA 0, 2000, .inl fun _ => 0)), (q2, .inl (cA 0, 2000, .inl fun _ => 0)), (q3, .inl (cA 0, 2000, .inl fun _ => 0)), (q4, .inl (cA 1, 2000, .inl fun _ => 0)), (q5, .inl (cA 1, 2000, .inl fun _ => 0))] := hD
  refine lv_aload_n hx hb zd_1_49 rfl (lv_at hl 0 rfl) ?_
  refine lv_bipush (v := 12) hx hb zd_1_50 (by decide) ?_
  refine zk_newa (atype := .int) (ty := .int) (n := 12) (N' := 12) (a0 := (12, .inl fun _ => 0)) hx hb hT 0 rfl (Or.inl ⟨rfl, rfl⟩) hK hP hD hS hA (fun _ => rfl) (by decide) (by decide) (Nat.le_of_ble_eq_true rfl) (Nat.le_of_ble_eq_true rfl) (Nat.le_of_ble_eq_true rfl) zd_1_52 (fun q6 H hP hD hS => ?_)
  have hP : va_P D pz_cl [(h0, .inr (1, [.ref q1, .ref q2, .ref q3, .ref q4, .ref q5, .null, .int 0, .int 0])), (q1, .inl (cA 0, 2000, .inl fun _ => 0)), (q2, .inl (cA 0, 2000, .inl fun _ => 0)), (q3, .inl (cA 0, 2000, .inl fun _ => 0)), (q4, .inl (cA 1, 2000, .inl fun _ => 0)), (q5, .inl (cA 1, 2000, .inl fun _ => 0)), (q6, .inl (cA 0, 12, .inl fun _ => 0))] H := hP
  have hD : va_D A [(h0, .inr (1, [.ref q1, .ref q2, .ref q3, .ref q4, .ref q5, .null, .int 0, .int 0])), (q1, .inl (cA 0, 2000, .inl fun _ => 0)), (q2, .inl (cA 0, 2000, .inl fun _ => 0)), (q3, .inl (cA 0, 2000, .inl fun _ => 0)), (q4, .inl (cA 1, 2000, .inl fun _ => 0)), (q5, .inl (cA 1, 2000, .inl fun _ => 0)), (q6, .inl (cA 0, 12, .inl fun _ => 0))] := hD
  refine W.widen (k := 6) (n := 10012) (Nat.le_of_ble_eq_true rfl) (Nat.le_of_ble_eq_true rfl) ?_
  refine va_putF (D := D) (ci := 1) (v := .ref q6) (ty := (.array .int)) (own := "GateBench$Circuit") (ref := "GateBench$Circuit") (C := pz_cn 1) (T := pz_u 1) (N := pz_nf 1) hx hb (pz_lays hT 1 (pz_clq 1 (by decide)) _) (fun _ h => h) (pz_ft 1) (pz_ftok (pz_clq 1 (by decide))) (pz_nms (pz_clq 1 (by decide))) hown hK hP hD hS 0 rfl (pz_clq 1 (by decide)) 5 (by decide) (zk_w hT (w := .fieldLink "GateBench$Circuit" 28 "GateBench$Circuit" "formulaOfInput" "[I") (List.mem_of_getElem? (i := 34) (by decide +kernel)) (by decide +kernel) (by decide +kernel)) (fun _ h9 => h9) rfl hin rfl (by decide +kernel) rfl rfl (Nat.le_of_ble_eq_true rfl) zd_1_54 (fun H locs hP hD hS => ?_)
  have hP : va_P D pz_cl [(h0, .inr (1, [.ref q1, .ref q2, .ref q3, .ref q4, .ref q5, .ref q6, .int 0, .int 0])), (q1, .inl (cA 0, 2000, .inl fun _ => 0)), (q2, .inl (cA 0, 2000, .inl fun _ => 0)), (q3, .inl (cA 0, 2000, .inl fun _ => 0)), (q4, .inl (cA 1, 2000, .inl fun _ => 0)), (q5, .inl (cA 1, 2000, .inl fun _ => 0)), (q6, .inl (cA 0, 12, .inl fun _ => 0))] H := hP
  have hD : va_D A [(h0, .inr (1, [.ref q1, .ref q2, .ref q3, .ref q4, .ref q5, .ref q6, .int 0, .int 0])), (q1, .inl (cA 0, 2000, .inl fun _ => 0)), (q2, .inl (cA 0, 2000, .inl fun _ => 0)), (q3, .inl (cA 0, 2000, .inl fun _ => 0)), (q4, .inl (cA 1, 2000, .inl fun _ => 0)), (q5, .inl (cA 1, 2000, .inl fun _ => 0)), (q6, .inl (cA 0, 12, .inl fun _ => 0))] := hD
  refine lv_aload_n hx hb zd_1_57 rfl (lv_at hl 0 rfl) ?_
  refine va_get (D := D) (ci := 1) (v := .ref q1) (own := "GateBench$Circuit") (ref := "GateBench$Circuit") (C := pz_cn 1) (T := pz_u 1) (N := pz_nf 1) hx hb (pz_lays hT 1 (pz_clq 1 (by decide)) _) (fun _ h => h) hown hK hP 0 rfl (pz_clq 1 (by decide)) 0 (by decide) (zk_w hT (w := .fieldLink "GateBench$Circuit" 9 "GateBench$Circuit" "chooser" "[I") (List.mem_of_getElem? (i := 28) (by decide +kernel)) (by decide +kernel) (by decide +kernel)) (fun _ h9 => h9) rfl zd_1_58 ?_
  refine lv_iconst (v := 0) hx hb zd_1_61 (by decide) ?_
  refine lv_iconst (v := -1) hx hb zd_1_62 (by decide) ?_
  refine va_iast hx hb hK hP hD hS 1 0 (cA := cA 0) (n := 2000) (f := fun _ => 0) rfl rfl (i := 0) (x := -1) (by unfold vp_in; decide) zd_1_63 (fun H locs hP hD hS => ?_)
  have hP : va_P D pz_cl [(h0, .inr (1, [.ref q1, .ref q2, .ref q3, .ref q4, .ref q5, .ref q6, .int 0, .int 0])), (q1, .inl (cA 0, 2000, .inl (upd (fun _ => 0) 0 (-1)))), (q2, .inl (cA 0, 2000, .inl fun _ => 0)), (q3, .inl (cA 0, 2000, .inl fun _ => 0)), (q4, .inl (cA 1, 2000, .inl fun _ => 0)), (q5, .inl (cA 1, 2000, .inl fun _ => 0)), (q6, .inl (cA 0, 12, .inl fun _ => 0))] H := hP
  have hD : va_D A [(h0, .inr (1, [.ref q1, .ref q2, .ref q3, .ref q4, .ref q5, .ref q6, .int 0, .int 0])), (q1, .inl (cA 0, 2000, .inl (upd (fun _ => 0) 0 (-1)))), (q2, .inl (cA 0, 2000, .inl fun _ => 0)), (q3, .inl (cA 0, 2000, .inl fun _ => 0)), (q4, .inl (cA 1, 2000, .inl fun _ => 0)), (q5, .inl (cA 1, 2000, .inl fun _ => 0)), (q6, .inl (cA 0, 12, .inl fun _ => 0))] := hD
  refine lv_aload_n hx hb zd_1_64 rfl (lv_at hl 0 rfl) ?_
  refine lv_iconst (v := 1) hx hb zd_1_65 (by decide) ?_
  refine va_put (D := D) (ci := 1) (v := .int 1) (ty := .int) (own := "GateBench$Circuit") (ref := "GateBench$Circuit") (C := pz_cn 1) (T := pz_u 1) (N := pz_nf 1) hx hb (pz_lays hT 1 (pz_clq 1 (by decide)) _) (fun _ h => h) (pz_ft 1) (pz_ftok (pz_clq 1 (by decide))) (pz_nms (pz_clq 1 (by decide))) hown hK hP hD hS 0 rfl (pz_clq 1 (by decide)) 6 (by decide) (zk_w hT (w := .fieldLink "GateBench$Circuit" 31 "GateBench$Circuit" "formulas" "I") (List.mem_of_getElem? (i := 37) (by decide +kernel)) (by decide +kernel) (by decide +kernel)) (fun _ h9 => h9) rfl (by decide +kernel) rfl rfl (Nat.le_of_ble_eq_true rfl) zd_1_66 (fun H locs hP hD hS => ?_)
  have hP : va_P D pz_cl [(h0, .inr (1, [.ref q1, .ref q2, .ref q3, .ref q4, .ref q5, .ref q6, .int 1, .int 0])), (q1, .inl (cA 0, 2000, .inl (upd (fun _ => 0) 0 (-1)))), (q2, .inl (cA 0, 2000, .inl fun _ => 0)), (q3, .inl (cA 0, 2000, .inl fun _ => 0)), (q4, .inl (cA 1, 2000, .inl fun _ => 0)), (q5, .inl (cA 1, 2000, .inl fun _ => 0)), (q6, .inl (cA 0, 12, .inl fun _ => 0))] H := hP
  have hD : va_D A [(h0, .inr (1, [.ref q1, .ref q2, .ref q3, .ref q4, .ref q5, .ref q6, .int 1, .int 0])), (q1, .inl (cA 0, 2000, .inl (upd (fun _ => 0) 0 (-1)))), (q2, .inl (cA 0, 2000, .inl fun _ => 0)), (q3, .inl (cA 0, 2000, .inl fun _ => 0)), (q4, .inl (cA 1, 2000, .inl fun _ => 0)), (q5, .inl (cA 1, 2000, .inl fun _ => 0)), (q6, .inl (cA 0, 12, .inl fun _ => 0))] := hD
  exact W.vret hx hb hr (fun t ht hW => ⟨⟨[(h0, .inr (1, [.ref q1, .ref q2, .ref q3, .ref q4, .ref q5, .ref q6, .int 1, .int 0])), (q1, .inl (cA 0, 2000, .inl (upd (fun _ => 0) 0 (-1)))), (q2, .inl (cA 0, 2000, .inl fun _ => 0)), (q3, .inl (cA 0, 2000, .inl fun _ => 0)), (q4, .inl (cA 1, 2000, .inl fun _ => 0)), (q5, .inl (cA 1, 2000, .inl fun _ => 0)), (q6, .inl (cA 0, 12, .inl fun _ => 0))], rfl, ⟨q1, q2, q3, q4, q5, q6, rfl⟩, by rw [ht]; exact hP, hD⟩, hS.F ht⟩) hS.2.2 zd_1_69
def zy_2 : MethodName := ⟨"GateBench$Clauses", "<init>", "()V"⟩
abbrev zb_2 : ByteArray := prog_4_method_1_code
theorem zd_2_0 : decode zb_2 0 = .ok (.aload_n 0, 1) := by decide +kernel
theorem zd_2_1 : decode zb_2 1 = .ok (.invokespecial 3, 3) := by decide +kernel
theorem zd_2_4 : decode zb_2 4 = .ok (.aload_n 0, 1) := by decide +kernel
theorem zd_2_5 : decode zb_2 5 = .ok (.ldc 9, 2) := by decide +kernel
theorem zd_2_7 : decode zb_2 7 = .ok (.newarray .int, 2) := by decide +kernel
theorem zd_2_9 : decode zb_2 9 = .ok (.putfield 10, 3) := by decide +kernel
theorem zd_2_12 : decode zb_2 12 = .ok (.aload_n 0, 1) := by decide +kernel
theorem zd_2_13 : decode zb_2 13 = .ok (.sipush 16117, 3) := by decide +kernel
theorem zd_2_16 : decode zb_2 16 = .ok (.newarray .int, 2) := by decide +kernel
theorem zd_2_18 : decode zb_2 18 = .ok (.putfield 16, 3) := by decide +kernel
theorem zd_2_21 : decode zb_2 21 = .ok (.return_, 1) := by decide +kernel
set_option maxHeartbeats 4000000 in
set_option maxRecDepth 100000 in
theorem cn_2 (l : Launch) (D : va_G) (cA : Nat → ClassId) (h0 sz : Nat) : zc_M l D cA zy_2 zb_2 1 { frames := 1, cells := 2, slots := 101329, locals := 12 } [.ref h0] [(h0, .inr (2, [.null, .null, .int 0, .int 0]))] sz (fun w => ∃ q1 q2 : Nat, w = [(h0, .inr (2, [.ref q1, .ref q2, .int 0, .int 0])), (q1, .inl (cA 0, 85212, .inl fun _ => 0)), (q2, .inl (cA 0, 16117, .inl fun _ => 0))]) 2 101329 := by
  unfold zc_M
  refine Met.ofW (cc := zb_2) (maxL := 1) (ret := none) (by decide) rfl ?_
  intro p e s m args below meth c s₁ B hml hv
  obtain ⟨rfl, hsz, hT, hP, hK, hD0⟩ := hv
  have hx := B.exec
  have hb := B.bytes
  have hr := B.returns
  have hown : s.vm.findClass "GateBench$Clauses" = some m.cls := findClass_of_methodNamed B.named
  have hlocks := B.notSynchronized
  have hin : meth.name = "<init>" := (name_of_methodNamed B.named B.method).1
  subst hsz
  have hD := hD0.self (sz := s.heap.size)
  generalize hAe : va_A [(h0, .inr (2, [.null, .null, .int 0, .int 0]))] s.heap.size = A at hD ⊢
  have hA : ∀ q : Nat, s.heap.size ≤ q → A q := fun q h => by rw [← hAe]; exact Or.inr h
  have hS : va_S A s.heap s.heap [] := va_S.rf
  have hP : va_P D pz_cl [(h0, .inr (2, [.null, .null, .int 0, .int 0]))] s.heap := hP
  have hl := lv_entry ([.ref h0]) (n := 1) (Nat.le_of_ble_eq_true rfl)
  rw [lg_entry_eq]
  generalize (lg_sl ([.ref h0]) ++ List.replicate (1 - (lg_sl ([.ref h0])).length) Slot.unset).toArray = ls at hl ⊢
  have hl : lv_has ls 1 [(0, .ref h0)] := hl
  refine lv_aload_n hx hb zd_2_0 rfl (lv_at hl 0 rfl) ?_
  refine W.objInit hx hb hown (zk_w hT (w := .methodLink "GateBench$Clauses" 3 objectInit) (List.mem_of_getElem? (i := 67) (by decide +kernel)) (by decide +kernel) (by decide +kernel)) (zk_w hT (w := .instanceMethod objectInit) (List.mem_of_getElem? (i := 20) (by decide +kernel)) (by decide +kernel) (by decide +kernel)) (zk_w hT (w := .code objectInit ⟨#[0xb1]⟩ 1 none) (List.mem_of_getElem? (i := 21) (by decide +kernel)) (by decide +kernel) (by decide +kernel)) rfl (by rw [hml]; exact hl.1) rfl zd_2_1 (Nat.le_of_ble_eq_true rfl) (Nat.le_of_ble_eq_true rfl) ?_
  refine W.eq (g2 := F0 m 4 ls []) rfl ?_
  refine lv_aload_n hx hb zd_2_4 rfl (lv_at hl 0 rfl) ?_
  refine lv_ldc (v := 85212) hx hb hown (zk_w hT (w := .constant "GateBench$Clauses" 9 (85212 : Int32)) (List.mem_of_getElem? (i := 68) (by decide +kernel)) (by decide +kernel) (by decide +kernel)) zd_2_5 ?_
  refine zk_newa (atype := .int) (ty := .int) (n := 85212) (N' := 85212) (a0 := (85212, .inl fun _ => 0)) hx hb hT 0 rfl (Or.inl ⟨rfl, rfl⟩) hK hP hD hS hA (fun _ => rfl) (by decide) (by decide) (Nat.le_of_ble_eq_true rfl) (Nat.le_of_ble_eq_true rfl) (Nat.le_of_ble_eq_true rfl) zd_2_7 (fun q1 H hP hD hS => ?_)
  have hP : va_P D pz_cl [(h0, .inr (2, [.null, .null, .int 0, .int 0])), (q1, .inl (cA 0, 85212, .inl fun _ => 0))] H := hP
  have hD : va_D A [(h0, .inr (2, [.null, .null, .int 0, .int 0])), (q1, .inl (cA 0, 85212, .inl fun _ => 0))] := hD
  refine W.widen (k := 1) (n := 85212) (Nat.le_of_ble_eq_true rfl) (Nat.le_of_ble_eq_true rfl) ?_
  refine va_putF (D := D) (ci := 2) (v := .ref q1) (ty := (.array .int)) (own := "GateBench$Clauses") (ref := "GateBench$Clauses") (C := pz_cn 2) (T := pz_u 2) (N := pz_nf 2) hx hb (pz_lays hT 2 (pz_clq 2 (by decide)) _) (fun _ h => h) (pz_ft 2) (pz_ftok (pz_clq 2 (by decide))) (pz_nms (pz_clq 2 (by decide))) hown hK hP hD hS 0 rfl (pz_clq 2 (by decide)) 0 (by decide) (zk_w hT (w := .fieldLink "GateBench$Clauses" 10 "GateBench$Clauses" "literals" "[I") (List.mem_of_getElem? (i := 69) (by decide +kernel)) (by decide +kernel) (by decide +kernel)) (fun _ h9 => h9) rfl hin rfl (by decide +kernel) rfl rfl (Nat.le_of_ble_eq_true rfl) zd_2_9 (fun H locs hP hD hS => ?_)
  have hP : va_P D pz_cl [(h0, .inr (2, [.ref q1, .null, .int 0, .int 0])), (q1, .inl (cA 0, 85212, .inl fun _ => 0))] H := hP
  have hD : va_D A [(h0, .inr (2, [.ref q1, .null, .int 0, .int 0])), (q1, .inl (cA 0, 85212, .inl fun _ => 0))] := hD
  refine lv_aload_n hx hb zd_2_12 rfl (lv_at hl 0 rfl) ?_
  refine lv_sipush (v := 16117) hx hb zd_2_13 (by decide) ?_
  refine zk_newa (atype := .int) (ty := .int) (n := 16117) (N' := 16117) (a0 := (16117, .inl fun _ => 0)) hx hb hT 0 rfl (Or.inl ⟨rfl, rfl⟩) hK hP hD hS hA (fun _ => rfl) (by decide) (by decide) (Nat.le_of_ble_eq_true rfl) (Nat.le_of_ble_eq_true rfl) (Nat.le_of_ble_eq_true rfl) zd_2_16 (fun q2 H hP hD hS => ?_)
  have hP : va_P D pz_cl [(h0, .inr (2, [.ref q1, .null, .int 0, .int 0])), (q1, .inl (cA 0, 85212, .inl fun _ => 0)), (q2, .inl (cA 0, 16117, .inl fun _ => 0))] H := hP
  have hD : va_D A [(h0, .inr (2, [.ref q1, .null, .int 0, .int 0])), (q1, .inl (cA 0, 85212, .inl fun _ => 0)), (q2, .inl (cA 0, 16117, .inl fun _ => 0))] := hD
  refine W.widen (k := 2) (n := 101329) (Nat.le_of_ble_eq_true rfl) (Nat.le_of_ble_eq_true rfl) ?_
  refine va_putF (D := D) (ci := 2) (v := .ref q2) (ty := (.array .int)) (own := "GateBench$Clauses") (ref := "GateBench$Clauses") (C := pz_cn 2) (T := pz_u 2) (N := pz_nf 2) hx hb (pz_lays hT 2 (pz_clq 2 (by decide)) _) (fun _ h => h) (pz_ft 2) (pz_ftok (pz_clq 2 (by decide))) (pz_nms (pz_clq 2 (by decide))) hown hK hP hD hS 0 rfl (pz_clq 2 (by decide)) 1 (by decide) (zk_w hT (w := .fieldLink "GateBench$Clauses" 16 "GateBench$Clauses" "start" "[I") (List.mem_of_getElem? (i := 72) (by decide +kernel)) (by decide +kernel) (by decide +kernel)) (fun _ h9 => h9) rfl hin rfl (by decide +kernel) rfl rfl (Nat.le_of_ble_eq_true rfl) zd_2_18 (fun H locs hP hD hS => ?_)
  have hP : va_P D pz_cl [(h0, .inr (2, [.ref q1, .ref q2, .int 0, .int 0])), (q1, .inl (cA 0, 85212, .inl fun _ => 0)), (q2, .inl (cA 0, 16117, .inl fun _ => 0))] H := hP
  have hD : va_D A [(h0, .inr (2, [.ref q1, .ref q2, .int 0, .int 0])), (q1, .inl (cA 0, 85212, .inl fun _ => 0)), (q2, .inl (cA 0, 16117, .inl fun _ => 0))] := hD
  exact W.vret hx hb hr (fun t ht hW => ⟨⟨[(h0, .inr (2, [.ref q1, .ref q2, .int 0, .int 0])), (q1, .inl (cA 0, 85212, .inl fun _ => 0)), (q2, .inl (cA 0, 16117, .inl fun _ => 0))], rfl, ⟨q1, q2, rfl⟩, by rw [ht]; exact hP, hD⟩, hS.F ht⟩) hS.2.2 zd_2_21
def zy_3 : MethodName := ⟨"GateBench$Checker", "<init>", "(LGateBench$Clauses;)V"⟩
abbrev zb_3 : ByteArray := prog_2_method_1_code
theorem zd_3_0 : decode zb_3 0 = .ok (.aload_n 0, 1) := by decide +kernel
theorem zd_3_1 : decode zb_3 1 = .ok (.invokespecial 3, 3) := by decide +kernel
theorem zd_3_4 : decode zb_3 4 = .ok (.aload_n 0, 1) := by decide +kernel
theorem zd_3_5 : decode zb_3 5 = .ok (.sipush 4000, 3) := by decide +kernel
theorem zd_3_8 : decode zb_3 8 = .ok (.newarray .int, 2) := by decide +kernel
theorem zd_3_10 : decode zb_3 10 = .ok (.putfield 9, 3) := by decide +kernel
theorem zd_3_13 : decode zb_3 13 = .ok (.aload_n 0, 1) := by decide +kernel
theorem zd_3_14 : decode zb_3 14 = .ok (.aload_n 1, 1) := by decide +kernel
theorem zd_3_15 : decode zb_3 15 = .ok (.putfield 15, 3) := by decide +kernel
theorem zd_3_18 : decode zb_3 18 = .ok (.return_, 1) := by decide +kernel
set_option maxHeartbeats 4000000 in
set_option maxRecDepth 100000 in
theorem cn_3 (l : Launch) (D : va_G) (cA : Nat → ClassId) (h0 sz x1 : Nat) : zc_M l D cA zy_3 zb_3 2 { frames := 1, cells := 1, slots := 4000, locals := 12 } [.ref h0, .ref x1] [(h0, .inr (3, [.null, .null, .int 0, .int 0, .int 0]))] sz (fun w => ∃ q1 : Nat, w = [(h0, .inr (3, [.ref x1, .ref q1, .int 0, .int 0, .int 0])), (q1, .inl (cA 0, 4000, .inl fun _ => 0))]) 1 4000 := by
  unfold zc_M
  refine Met.ofW (cc := zb_3) (maxL := 2) (ret := none) (by decide) rfl ?_
  intro p e s m args below meth c s₁ B hml hv
  obtain ⟨rfl, hsz, hT, hP, hK, hD0⟩ := hv
  have hx := B.exec
  have hb := B.bytes
  have hr := B.returns
  have hown : s.vm.findClass "GateBench$Checker" = some m.cls := findClass_of_methodNamed B.named
  have hlocks := B.notSynchronized
  have hin : meth.name = "<init>" := (name_of_methodNamed B.named B.method).1
  subst hsz
  have hD := hD0.self (sz := s.heap.size)
  generalize hAe : va_A [(h0, .inr (3, [.null, .null, .int 0, .int 0, .int 0]))] s.heap.size = A at hD ⊢
  have hA : ∀ q : Nat, s.heap.size ≤ q → A q := fun q h => by rw [← hAe]; exact Or.inr h
  have hS : va_S A s.heap s.heap [] := va_S.rf
  have hP : va_P D pz_cl [(h0, .inr (3, [.null, .null, .int 0, .int 0, .int 0]))] s.heap := hP
  have hl := lv_entry ([.ref h0, .ref x1]) (n := 2) (Nat.le_of_ble_eq_true rfl)
  rw [lg_entry_eq]
  generalize (lg_sl ([.ref h0, .ref x1]) ++ List.replicate (2 - (lg_sl ([.ref h0, .ref x1])).length) Slot.unset).toArray = ls at hl ⊢
  have hl : lv_has ls 2 [(0, .ref h0), (1, .ref x1)] := hl
  refine lv_aload_n hx hb zd_3_0 rfl (lv_at hl 0 rfl) ?_
  refine W.objInit hx hb hown (zk_w hT (w := .methodLink "GateBench$Checker" 3 objectInit) (List.mem_of_getElem? (i := 93) (by decide +kernel)) (by decide +kernel) (by decide +kernel)) (zk_w hT (w := .instanceMethod objectInit) (List.mem_of_getElem? (i := 20) (by decide +kernel)) (by decide +kernel) (by decide +kernel)) (zk_w hT (w := .code objectInit ⟨#[0xb1]⟩ 1 none) (List.mem_of_getElem? (i := 21) (by decide +kernel)) (by decide +kernel) (by decide +kernel)) rfl (by rw [hml]; exact hl.1) rfl zd_3_1 (Nat.le_of_ble_eq_true rfl) (Nat.le_of_ble_eq_true rfl) ?_
  refine W.eq (g2 := F0 m 4 ls []) rfl ?_
  refine lv_aload_n hx hb zd_3_4 rfl (lv_at hl 0 rfl) ?_
  refine lv_sipush (v := 4000) hx hb zd_3_5 (by decide) ?_
  refine zk_newa (atype := .int) (ty := .int) (n := 4000) (N' := 4000) (a0 := (4000, .inl fun _ => 0)) hx hb hT 0 rfl (Or.inl ⟨rfl, rfl⟩) hK hP hD hS hA (fun _ => rfl) (by decide) (by decide) (Nat.le_of_ble_eq_true rfl) (Nat.le_of_ble_eq_true rfl) (Nat.le_of_ble_eq_true rfl) zd_3_8 (fun q1 H hP hD hS => ?_)
  have hP : va_P D pz_cl [(h0, .inr (3, [.null, .null, .int 0, .int 0, .int 0])), (q1, .inl (cA 0, 4000, .inl fun _ => 0))] H := hP
  have hD : va_D A [(h0, .inr (3, [.null, .null, .int 0, .int 0, .int 0])), (q1, .inl (cA 0, 4000, .inl fun _ => 0))] := hD
  refine W.widen (k := 1) (n := 4000) (Nat.le_of_ble_eq_true rfl) (Nat.le_of_ble_eq_true rfl) ?_
  refine va_putF (D := D) (ci := 3) (v := .ref q1) (ty := (.array .int)) (own := "GateBench$Checker") (ref := "GateBench$Checker") (C := pz_cn 3) (T := pz_u 3) (N := pz_nf 3) hx hb (pz_lays hT 3 (pz_clq 3 (by decide)) _) (fun _ h => h) (pz_ft 3) (pz_ftok (pz_clq 3 (by decide))) (pz_nms (pz_clq 3 (by decide))) hown hK hP hD hS 0 rfl (pz_clq 3 (by decide)) 1 (by decide) (zk_w hT (w := .fieldLink "GateBench$Checker" 9 "GateBench$Checker" "failsInStep" "[I") (List.mem_of_getElem? (i := 95) (by decide +kernel)) (by decide +kernel) (by decide +kernel)) (fun _ h9 => h9) rfl hin rfl (by decide +kernel) rfl rfl (Nat.le_of_ble_eq_true rfl) zd_3_10 (fun H locs hP hD hS => ?_)
  have hP : va_P D pz_cl [(h0, .inr (3, [.null, .ref q1, .int 0, .int 0, .int 0])), (q1, .inl (cA 0, 4000, .inl fun _ => 0))] H := hP
  have hD : va_D A [(h0, .inr (3, [.null, .ref q1, .int 0, .int 0, .int 0])), (q1, .inl (cA 0, 4000, .inl fun _ => 0))] := hD
  refine lv_aload_n hx hb zd_3_13 rfl (lv_at hl 0 rfl) ?_
  refine lv_aload_n hx hb zd_3_14 rfl (lv_at hl 1 rfl) ?_
  refine va_putF (D := D) (ci := 3) (v := .ref x1) (ty := (.object "GateBench$Clauses")) (own := "GateBench$Checker") (ref := "GateBench$Checker") (C := pz_cn 3) (T := pz_u 3) (N := pz_nf 3) hx hb (pz_lays hT 3 (pz_clq 3 (by decide)) _) (fun _ h => h) (pz_ft 3) (pz_ftok (pz_clq 3 (by decide))) (pz_nms (pz_clq 3 (by decide))) hown hK hP hD hS 0 rfl (pz_clq 3 (by decide)) 0 (by decide) (zk_w hT (w := .fieldLink "GateBench$Checker" 15 "GateBench$Checker" "clauses" "LGateBench$Clauses;") (List.mem_of_getElem? (i := 94) (by decide +kernel)) (by decide +kernel) (by decide +kernel)) (fun _ h9 => h9) rfl hin rfl (by decide +kernel) rfl rfl (Nat.le_of_ble_eq_true rfl) zd_3_15 (fun H locs hP hD hS => ?_)
  have hP : va_P D pz_cl [(h0, .inr (3, [.ref x1, .ref q1, .int 0, .int 0, .int 0])), (q1, .inl (cA 0, 4000, .inl fun _ => 0))] H := hP
  have hD : va_D A [(h0, .inr (3, [.ref x1, .ref q1, .int 0, .int 0, .int 0])), (q1, .inl (cA 0, 4000, .inl fun _ => 0))] := hD
  exact W.vret hx hb hr (fun t ht hW => ⟨⟨[(h0, .inr (3, [.ref x1, .ref q1, .int 0, .int 0, .int 0])), (q1, .inl (cA 0, 4000, .inl fun _ => 0))], rfl, ⟨q1, rfl⟩, by rw [ht]; exact hP, hD⟩, hS.F ht⟩) hS.2.2 zd_3_18
def zy_6 : MethodName := ⟨"GateBenchModel", "<init>", "()V"⟩
abbrev zb_6 : ByteArray := prog_8_method_1_code
theorem zd_6_0 : decode zb_6 0 = .ok (.aload_n 0, 1) := by decide +kernel
theorem zd_6_1 : decode zb_6 1 = .ok (.invokespecial 1, 3) := by decide +kernel
theorem zd_6_4 : decode zb_6 4 = .ok (.aload_n 0, 1) := by decide +kernel
theorem zd_6_5 : decode zb_6 5 = .ok (.iconst 0, 1) := by decide +kernel
theorem zd_6_6 : decode zb_6 6 = .ok (.putfield 7, 3) := by decide +kernel
theorem zd_6_9 : decode zb_6 9 = .ok (.aload_n 0, 1) := by decide +kernel
theorem zd_6_10 : decode zb_6 10 = .ok (.iconst 1, 1) := by decide +kernel
theorem zd_6_11 : decode zb_6 11 = .ok (.putfield 13, 3) := by decide +kernel
theorem zd_6_14 : decode zb_6 14 = .ok (.aload_n 0, 1) := by decide +kernel
theorem zd_6_15 : decode zb_6 15 = .ok (.iconst 0, 1) := by decide +kernel
theorem zd_6_16 : decode zb_6 16 = .ok (.putfield 16, 3) := by decide +kernel
theorem zd_6_19 : decode zb_6 19 = .ok (.aload_n 0, 1) := by decide +kernel
theorem zd_6_20 : decode zb_6 20 = .ok (.iconst 0, 1) := by decide +kernel
theorem zd_6_21 : decode zb_6 21 = .ok (.putfield 19, 3) := by decide +kernel
theorem zd_6_24 : decode zb_6 24 = .ok (.aload_n 0, 1) := by decide +kernel
theorem zd_6_25 : decode zb_6 25 = .ok (.sipush 2000, 3) := by decide +kernel
theorem zd_6_28 : decode zb_6 28 = .ok (.newarray .int, 2) := by decide +kernel
theorem zd_6_30 : decode zb_6 30 = .ok (.putfield 22, 3) := by decide +kernel
theorem zd_6_33 : decode zb_6 33 = .ok (.aload_n 0, 1) := by decide +kernel
theorem zd_6_34 : decode zb_6 34 = .ok (.sipush 2000, 3) := by decide +kernel
theorem zd_6_37 : decode zb_6 37 = .ok (.newarray .int, 2) := by decide +kernel
theorem zd_6_39 : decode zb_6 39 = .ok (.putfield 26, 3) := by decide +kernel
theorem zd_6_42 : decode zb_6 42 = .ok (.aload_n 0, 1) := by decide +kernel
theorem zd_6_43 : decode zb_6 43 = .ok (.sipush 2000, 3) := by decide +kernel
theorem zd_6_46 : decode zb_6 46 = .ok (.newarray .int, 2) := by decide +kernel
theorem zd_6_48 : decode zb_6 48 = .ok (.putfield 29, 3) := by decide +kernel
theorem zd_6_51 : decode zb_6 51 = .ok (.aload_n 0, 1) := by decide +kernel
theorem zd_6_52 : decode zb_6 52 = .ok (.sipush 2000, 3) := by decide +kernel
theorem zd_6_55 : decode zb_6 55 = .ok (.newarray .int, 2) := by decide +kernel
theorem zd_6_57 : decode zb_6 57 = .ok (.putfield 32, 3) := by decide +kernel
theorem zd_6_60 : decode zb_6 60 = .ok (.aload_n 0, 1) := by decide +kernel
theorem zd_6_61 : decode zb_6 61 = .ok (.bipush 20, 2) := by decide +kernel
theorem zd_6_63 : decode zb_6 63 = .ok (.newarray .int, 2) := by decide +kernel
theorem zd_6_65 : decode zb_6 65 = .ok (.putfield 35, 3) := by decide +kernel
theorem zd_6_68 : decode zb_6 68 = .ok (.aload_n 0, 1) := by decide +kernel
theorem zd_6_69 : decode zb_6 69 = .ok (.bipush 12, 2) := by decide +kernel
theorem zd_6_71 : decode zb_6 71 = .ok (.newarray .boolean, 2) := by decide +kernel
theorem zd_6_73 : decode zb_6 73 = .ok (.putfield 38, 3) := by decide +kernel
theorem zd_6_76 : decode zb_6 76 = .ok (.aload_n 0, 1) := by decide +kernel
theorem zd_6_77 : decode zb_6 77 = .ok (.bipush 12, 2) := by decide +kernel
theorem zd_6_79 : decode zb_6 79 = .ok (.newarray .boolean, 2) := by decide +kernel
theorem zd_6_81 : decode zb_6 81 = .ok (.putfield 42, 3) := by decide +kernel
theorem zd_6_84 : decode zb_6 84 = .ok (.aload_n 0, 1) := by decide +kernel
theorem zd_6_85 : decode zb_6 85 = .ok (.sipush 2000, 3) := by decide +kernel
theorem zd_6_88 : decode zb_6 88 = .ok (.newarray .boolean, 2) := by decide +kernel
theorem zd_6_90 : decode zb_6 90 = .ok (.putfield 45, 3) := by decide +kernel
theorem zd_6_93 : decode zb_6 93 = .ok (.aload_n 0, 1) := by decide +kernel
theorem zd_6_94 : decode zb_6 94 = .ok (.bipush 20, 2) := by decide +kernel
theorem zd_6_96 : decode zb_6 96 = .ok (.newarray .int, 2) := by decide +kernel
theorem zd_6_98 : decode zb_6 98 = .ok (.putfield 48, 3) := by decide +kernel
theorem zd_6_101 : decode zb_6 101 = .ok (.return_, 1) := by decide +kernel
set_option maxHeartbeats 4000000 in
set_option maxRecDepth 100000 in
theorem cn_6 (l : Launch) (D : va_G) (cA : Nat → ClassId) (h0 sz : Nat) : zc_M l D cA zy_6 zb_6 1 { frames := 1, cells := 9, slots := 10064, locals := 12 } [.ref h0] [(h0, .inr (6, [.int 0, .int 0, .int 0, .int 0, .null, .null, .null, .null, .null, .null, .null, .null, .null]))] sz (fun w => ∃ q1 q2 q3 q4 q5 q6 q7 q8 q9 : Nat, w = [(h0, .inr (6, [.int 0, .int 1, .int 0, .int 0, .ref q1, .ref q2, .ref q3, .ref q4, .ref q5, .ref q6, .ref q7, .ref q8, .ref q9])), (q1, .inl (cA 0, 2000, .inl fun _ => 0)), (q2, .inl (cA 0, 2000, .inl fun _ => 0)), (q3, .inl (cA 0, 2000, .inl fun _ => 0)), (q4, .inl (cA 0, 2000, .inl fun _ => 0)), (q5, .inl (cA 0, 20, .inl fun _ => 0)), (q6, .inl (cA 1, 12, .inl fun _ => 0)), (q7, .inl (cA 1, 12, .inl fun _ => 0)), (q8, .inl (cA 1, 2000, .inl fun _ => 0)), (q9, .inl (cA 0, 20, .inl fun _ => 0))]) 9 10064 := by
  unfold zc_M
  refine Met.ofW (cc := zb_6) (maxL := 1) (ret := none) (by decide) rfl ?_
  intro p e s m args below meth c s₁ B hml hv
  obtain ⟨rfl, hsz, hT, hP, hK, hD0⟩ := hv
  have hx := B.exec
  have hb := B.bytes
  have hr := B.returns
  have hown : s.vm.findClass "GateBenchModel" = some m.cls := findClass_of_methodNamed B.named
  have hlocks := B.notSynchronized
  have hin : meth.name = "<init>" := (name_of_methodNamed B.named B.method).1
  subst hsz
  have hD := hD0.self (sz := s.heap.size)
  generalize hAe : va_A [(h0, .inr (6, [.int 0, .int 0, .int 0, .int 0, .null, .null, .null, .null, .null, .null, .null, .null, .null]))] s.heap.size = A at hD ⊢
  have hA : ∀ q : Nat, s.heap.size ≤ q → A q := fun q h => by rw [← hAe]; exact Or.inr h
  have hS : va_S A s.heap s.heap [] := va_S.rf
  have hP : va_P D pz_cl [(h0, .inr (6, [.int 0, .int 0, .int 0, .int 0, .null, .null, .null, .null, .null, .null, .null, .null, .null]))] s.heap := hP
  have hl := lv_entry ([.ref h0]) (n := 1) (Nat.le_of_ble_eq_true rfl)
  rw [lg_entry_eq]
  generalize (lg_sl ([.ref h0]) ++ List.replicate (1 - (lg_sl ([.ref h0])).length) Slot.unset).toArray = ls at hl ⊢
  have hl : lv_has ls 1 [(0, .ref h0)] := hl
  refine lv_aload_n hx hb zd_6_0 rfl (lv_at hl 0 rfl) ?_
  refine W.objInit hx hb hown (zk_w hT (w := .methodLink "GateBenchModel" 1 objectInit) (List.mem_of_getElem? (i := 601) (by decide +kernel)) (by decide +kernel) (by decide +kernel)) (zk_w hT (w := .instanceMethod objectInit) (List.mem_of_getElem? (i := 20) (by decide +kernel)) (by decide +kernel) (by decide +kernel)) (zk_w hT (w := .code objectInit ⟨#[0xb1]⟩ 1 none) (List.mem_of_getElem? (i := 21) (by decide +kernel)) (by decide +kernel) (by decide +kernel)) rfl (by rw [hml]; exact hl.1) rfl zd_6_1 (Nat.le_of_ble_eq_true rfl) (Nat.le_of_ble_eq_true rfl) ?_
  refine W.eq (g2 := F0 m 4 ls []) rfl ?_
  refine lv_aload_n hx hb zd_6_4 rfl (lv_at hl 0 rfl) ?_
  refine lv_iconst (v := 0) hx hb zd_6_5 (by decide) ?_
  refine va_put (D := D) (ci := 6) (v := .int 0) (ty := .int) (own := "GateBenchModel") (ref := "GateBenchModel") (C := pz_cn 6) (T := pz_u 6) (N := pz_nf 6) hx hb (pz_lays hT 6 (pz_clq 6 (by decide)) _) (fun _ h => h) (pz_ft 6) (pz_ftok (pz_clq 6 (by decide))) (pz_nms (pz_clq 6 (by decide))) hown hK hP hD hS 0 rfl (pz_clq 6 (by decide)) 0 (by decide) (zk_w hT (w := .fieldLink "GateBenchModel" 7 "GateBenchModel" "thrown" "I") (List.mem_of_getElem? (i := 602) (by decide +kernel)) (by decide +kernel) (by decide +kernel)) (fun _ h9 => h9) rfl (by decide +kernel) rfl rfl (Nat.le_of_ble_eq_true rfl) zd_6_6 (fun H locs hP hD hS => ?_)
  have hP : va_P D pz_cl [(h0, .inr (6, [.int 0, .int 0, .int 0, .int 0, .null, .null, .null, .null, .null, .null, .null, .null, .null]))] H := hP
  have hD : va_D A [(h0, .inr (6, [.int 0, .int 0, .int 0, .int 0, .null, .null, .null, .null, .null, .null, .null, .null, .null]))] := hD
  refine lv_aload_n hx hb zd_6_9 rfl (lv_at hl 0 rfl) ?_
  refine lv_iconst (v := 1) hx hb zd_6_10 (by decide) ?_
  refine va_put (D := D) (ci := 6) (v := .int 1) (ty := .int) (own := "GateBenchModel") (ref := "GateBenchModel") (C := pz_cn 6) (T := pz_u 6) (N := pz_nf 6) hx hb (pz_lays hT 6 (pz_clq 6 (by decide)) _) (fun _ h => h) (pz_ft 6) (pz_ftok (pz_clq 6 (by decide))) (pz_nms (pz_clq 6 (by decide))) hown hK hP hD hS 0 rfl (pz_clq 6 (by decide)) 1 (by decide) (zk_w hT (w := .fieldLink "GateBenchModel" 13 "GateBenchModel" "formulas" "I") (List.mem_of_getElem? (i := 603) (by decide +kernel)) (by decide +kernel) (by decide +kernel)) (fun _ h9 => h9) rfl (by decide +kernel) rfl rfl (Nat.le_of_ble_eq_true rfl) zd_6_11 (fun H locs hP hD hS => ?_)
  have hP : va_P D pz_cl [(h0, .inr (6, [.int 0, .int 1, .int 0, .int 0, .null, .null, .null, .null, .null, .null, .null, .null, .null]))] H := hP
  have hD : va_D A [(h0, .inr (6, [.int 0, .int 1, .int 0, .int 0, .null, .null, .null, .null, .null, .null, .null, .null, .null]))] := hD
  refine lv_aload_n hx hb zd_6_14 rfl (lv_at hl 0 rfl) ?_
  refine lv_iconst (v := 0) hx hb zd_6_15 (by decide) ?_
  refine va_put (D := D) (ci := 6) (v := .int 0) (ty := .int) (own := "GateBenchModel") (ref := "GateBenchModel") (C := pz_cn 6) (T := pz_u 6) (N := pz_nf 6) hx hb (pz_lays hT 6 (pz_clq 6 (by decide)) _) (fun _ h => h) (pz_ft 6) (pz_ftok (pz_clq 6 (by decide))) (pz_nms (pz_clq 6 (by decide))) hown hK hP hD hS 0 rfl (pz_clq 6 (by decide)) 2 (by decide) (zk_w hT (w := .fieldLink "GateBenchModel" 16 "GateBenchModel" "inputs" "I") (List.mem_of_getElem? (i := 604) (by decide +kernel)) (by decide +kernel) (by decide +kernel)) (fun _ h9 => h9) rfl (by decide +kernel) rfl rfl (Nat.le_of_ble_eq_true rfl) zd_6_16 (fun H locs hP hD hS => ?_)
  have hP : va_P D pz_cl [(h0, .inr (6, [.int 0, .int 1, .int 0, .int 0, .null, .null, .null, .null, .null, .null, .null, .null, .null]))] H := hP
  have hD : va_D A [(h0, .inr (6, [.int 0, .int 1, .int 0, .int 0, .null, .null, .null, .null, .null, .null, .null, .null, .null]))] := hD
  refine lv_aload_n hx hb zd_6_19 rfl (lv_at hl 0 rfl) ?_
  refine lv_iconst (v := 0) hx hb zd_6_20 (by decide) ?_
  refine va_put (D := D) (ci := 6) (v := .int 0) (ty := .int) (own := "GateBenchModel") (ref := "GateBenchModel") (C := pz_cn 6) (T := pz_u 6) (N := pz_nf 6) hx hb (pz_lays hT 6 (pz_clq 6 (by decide)) _) (fun _ h => h) (pz_ft 6) (pz_ftok (pz_clq 6 (by decide))) (pz_nms (pz_clq 6 (by decide))) hown hK hP hD hS 0 rfl (pz_clq 6 (by decide)) 3 (by decide) (zk_w hT (w := .fieldLink "GateBenchModel" 19 "GateBenchModel" "listed" "I") (List.mem_of_getElem? (i := 605) (by decide +kernel)) (by decide +kernel) (by decide +kernel)) (fun _ h9 => h9) rfl (by decide +kernel) rfl rfl (Nat.le_of_ble_eq_true rfl) zd_6_21 (fun H locs hP hD hS => ?_)
  have hP : va_P D pz_cl [(h0, .inr (6, [.int 0, .int 1, .int 0, .int 0, .null, .null, .null, .null, .null, .null, .null, .null, .null]))] H := hP
  have hD : va_D A [(h0, .inr (6, [.int 0, .int 1, .int 0, .int 0, .null, .null, .null, .null, .null, .null, .null, .null, .null]))] := hD
  refine lv_aload_n hx hb zd_6_24 rfl (lv_at hl 0 rfl) ?_
  refine lv_sipush (v := 2000) hx hb zd_6_25 (by decide) ?_
  refine zk_newa (atype := .int) (ty := .int) (n := 2000) (N' := 2000) (a0 := (2000, .inl fun _ => 0)) hx hb hT 0 rfl (Or.inl ⟨rfl, rfl⟩) hK hP hD hS hA (fun _ => rfl) (by decide) (by decide) (Nat.le_of_ble_eq_true rfl) (Nat.le_of_ble_eq_true rfl) (Nat.le_of_ble_eq_true rfl) zd_6_28 (fun q1 H hP hD hS => ?_)
  have hP : va_P D pz_cl [(h0, .inr (6, [.int 0, .int 1, .int 0, .int 0, .null, .null, .null, .null, .null, .null, .null, .null, .null])), (q1, .inl (cA 0, 2000, .inl fun _ => 0))] H := hP
  have hD : va_D A [(h0, .inr (6, [.int 0, .int 1, .int 0, .int 0, .null, .null, .null, .null, .null, .null, .null, .null, .null])), (q1, .inl (cA 0, 2000, .inl fun _ => 0))] := hD
  refine W.widen (k := 1) (n := 2000) (Nat.le_of_ble_eq_true rfl) (Nat.le_of_ble_eq_true rfl) ?_
  refine va_putF (D := D) (ci := 6) (v := .ref q1) (ty := (.array .int)) (own := "GateBenchModel") (ref := "GateBenchModel") (C := pz_cn 6) (T := pz_u 6) (N := pz_nf 6) hx hb (pz_lays hT 6 (pz_clq 6 (by decide)) _) (fun _ h => h) (pz_ft 6) (pz_ftok (pz_clq 6 (by decide))) (pz_nms (pz_clq 6 (by decide))) hown hK hP hD hS 0 rfl (pz_clq 6 (by decide)) 4 (by decide) (zk_w hT (w := .fieldLink "GateBenchModel" 22 "GateBenchModel" "kind" "[I") (List.mem_of_getElem? (i := 606) (by decide +kernel)) (by decide +kernel) (by decide +kernel)) (fun _ h9 => h9) rfl hin rfl (by decide +kernel) rfl rfl (Nat.le_of_ble_eq_true rfl) zd_6_30 (fun H locs hP hD hS => ?_)
  have hP : va_P D pz_cl [(h0, .inr (6, [.int 0, .int 1, .int 0, .int 0, .ref q1, .null, .null, .null, .null, .null, .null, .null, .null])), (q1, .inl (cA 0, 2000, .inl fun _ => 0))] H := hP
  have hD : va_D A [(h0, .inr (6, [.int 0, .int 1, .int 0, .int 0, .ref q1, .null, .null, .null, .null, .null, .null, .null, .null])), (q1, .inl (cA 0, 2000, .inl fun _ => 0))] := hD
  refine lv_aload_n hx hb zd_6_33 rfl (lv_at hl 0 rfl) ?_
  refine lv_sipush (v := 2000) hx hb zd_6_34 (by decide) ?_
  refine zk_newa (atype := .int) (ty := .int) (n := 2000) (N' := 2000) (a0 := (2000, .inl fun _ => 0)) hx hb hT 0 rfl (Or.inl ⟨rfl, rfl⟩) hK hP hD hS hA (fun _ => rfl) (by decide) (by decide) (Nat.le_of_ble_eq_true rfl) (Nat.le_of_ble_eq_true rfl) (Nat.le_of_ble_eq_true rfl) zd_6_37 (fun q2 H hP hD hS => ?_)
  have hP : va_P D pz_cl [(h0, .inr (6, [.int 0, .int 1, .int 0, .int 0, .ref q1, .null, .null, .null, .null, .null, .null, .null, .null])), (q1, .inl (cA 0, 2000, .inl fun _ => 0)), (q2, .inl (cA 0, 2000, .inl fun _ => 0))] H := hP
  have hD : va_D A [(h0, .inr (6, [.int 0, .int 1, .int 0, .int 0, .ref q1, .null, .null, .null, .null, .null, .null, .null, .null])), (q1, .inl (cA 0, 2000, .inl fun _ => 0)), (q2, .inl (cA 0, 2000, .inl fun _ => 0))] := hD
  refine W.widen (k := 2) (n := 4000) (Nat.le_of_ble_eq_true rfl) (Nat.le_of_ble_eq_true rfl) ?_
  refine va_putF (D := D) (ci := 6) (v := .ref q2) (ty := (.array .int)) (own := "GateBenchModel") (ref := "GateBenchModel") (C := pz_cn 6) (T := pz_u 6) (N := pz_nf 6) hx hb (pz_lays hT 6 (pz_clq 6 (by decide)) _) (fun _ h => h) (pz_ft 6) (pz_ftok (pz_clq 6 (by decide))) (pz_nms (pz_clq 6 (by decide))) hown hK hP hD hS 0 rfl (pz_clq 6 (by decide)) 5 (by decide) (zk_w hT (w := .fieldLink "GateBenchModel" 26 "GateBenchModel" "first" "[I") (List.mem_of_getElem? (i := 607) (by decide +kernel)) (by decide +kernel) (by decide +kernel)) (fun _ h9 => h9) rfl hin rfl (by decide +kernel) rfl rfl (Nat.le_of_ble_eq_true rfl) zd_6_39 (fun H locs hP hD hS => ?_)
  have hP : va_P D pz_cl [(h0, .inr (6, [.int 0, .int 1, .int 0, .int 0, .ref q1, .ref q2, .null, .null, .null, .null, .null, .null, .null])), (q1, .inl (cA 0, 2000, .inl fun _ => 0)), (q2, .inl (cA 0, 2000, .inl fun _ => 0))] H := hP
  have hD : va_D A [(h0, .inr (6, [.int 0, .int 1, .int 0, .int 0, .ref q1, .ref q2, .null, .null, .null, .null, .null, .null, .null])), (q1, .inl (cA 0, 2000, .inl fun _ => 0)), (q2, .inl (cA 0, 2000, .inl fun _ => 0))] := hD
  refine lv_aload_n hx hb zd_6_42 rfl (lv_at hl 0 rfl) ?_
  refine lv_sipush (v := 2000) hx hb zd_6_43 (by decide) ?_
  refine zk_newa (atype := .int) (ty := .int) (n := 2000) (N' := 2000) (a0 := (2000, .inl fun _ => 0)) hx hb hT 0 rfl (Or.inl ⟨rfl, rfl⟩) hK hP hD hS hA (fun _ => rfl) (by decide) (by decide) (Nat.le_of_ble_eq_true rfl) (Nat.le_of_ble_eq_true rfl) (Nat.le_of_ble_eq_true rfl) zd_6_46 (fun q3 H hP hD hS => ?_)
  have hP : va_P D pz_cl [(h0, .inr (6, [.int 0, .int 1, .int 0, .int 0, .ref q1, .ref q2, .null, .null, .null, .null, .null, .null, .null])), (q1, .inl (cA 0, 2000, .inl fun _ => 0)), (q2, .inl (cA 0, 2000, .inl fun _ => 0)), (q3, .inl (cA 0, 2000, .inl fun _ => 0))] H := hP
  have hD : va_D A [(h0, .inr (6, [.int 0, .int 1, .int 0, .int 0, .ref q1, .ref q2, .null, .null, .null, .null, .null, .null, .null])), (q1, .inl (cA 0, 2000, .inl fun _ => 0)), (q2, .inl (cA 0, 2000, .inl fun _ => 0)), (q3, .inl (cA 0, 2000, .inl fun _ => 0))] := hD
  refine W.widen (k := 3) (n := 6000) (Nat.le_of_ble_eq_true rfl) (Nat.le_of_ble_eq_true rfl) ?_
  refine va_putF (D := D) (ci := 6) (v := .ref q3) (ty := (.array .int)) (own := "GateBenchModel") (ref := "GateBenchModel") (C := pz_cn 6) (T := pz_u 6) (N := pz_nf 6) hx hb (pz_lays hT 6 (pz_clq 6 (by decide)) _) (fun _ h => h) (pz_ft 6) (pz_ftok (pz_clq 6 (by decide))) (pz_nms (pz_clq 6 (by decide))) hown hK hP hD hS 0 rfl (pz_clq 6 (by decide)) 6 (by decide) (zk_w hT (w := .fieldLink "GateBenchModel" 29 "GateBenchModel" "second" "[I") (List.mem_of_getElem? (i := 608) (by decide +kernel)) (by decide +kernel) (by decide +kernel)) (fun _ h9 => h9) rfl hin rfl (by decide +kernel) rfl rfl (Nat.le_of_ble_eq_true rfl) zd_6_48 (fun H locs hP hD hS => ?_)
  have hP : va_P D pz_cl [(h0, .inr (6, [.int 0, .int 1, .int 0, .int 0, .ref q1, .ref q2, .ref q3, .null, .null, .null, .null, .null, .null])), (q1, .inl (cA 0, 2000, .inl fun _ => 0)), (q2, .inl (cA 0, 2000, .inl fun _ => 0)), (q3, .inl (cA 0, 2000, .inl fun _ => 0))] H := hP
  have hD : va_D A [(h0, .inr (6, [.int 0, .int 1, .int 0, .int 0, .ref q1, .ref q2, .ref q3, .null, .null, .null, .null, .null, .null])), (q1, .inl (cA 0, 2000, .inl fun _ => 0)), (q2, .inl (cA 0, 2000, .inl fun _ => 0)), (q3, .inl (cA 0, 2000, .inl fun _ => 0))] := hD
  refine lv_aload_n hx hb zd_6_51 rfl (lv_at hl 0 rfl) ?_
  refine lv_sipush (v := 2000) hx hb zd_6_52 (by decide) ?_
  refine zk_newa (atype := .int) (ty := .int) (n := 2000) (N' := 2000) (a0 := (2000, .inl fun _ => 0)) hx hb hT 0 rfl (Or.inl ⟨rfl, rfl⟩) hK hP hD hS hA (fun _ => rfl) (by decide) (by decide) (Nat.le_of_ble_eq_true rfl) (Nat.le_of_ble_eq_true rfl) (Nat.le_of_ble_eq_true rfl) zd_6_55 (fun q4 H hP hD hS => ?_)
  have hP : va_P D pz_cl [(h0, .inr (6, [.int 0, .int 1, .int 0, .int 0, .ref q1, .ref q2, .ref q3, .null, .null, .null, .null, .null, .null])), (q1, .inl (cA 0, 2000, .inl fun _ => 0)), (q2, .inl (cA 0, 2000, .inl fun _ => 0)), (q3, .inl (cA 0, 2000, .inl fun _ => 0)), (q4, .inl (cA 0, 2000, .inl fun _ => 0))] H := hP
  have hD : va_D A [(h0, .inr (6, [.int 0, .int 1, .int 0, .int 0, .ref q1, .ref q2, .ref q3, .null, .null, .null, .null, .null, .null])), (q1, .inl (cA 0, 2000, .inl fun _ => 0)), (q2, .inl (cA 0, 2000, .inl fun _ => 0)), (q3, .inl (cA 0, 2000, .inl fun _ => 0)), (q4, .inl (cA 0, 2000, .inl fun _ => 0))] := hD
  refine W.widen (k := 4) (n := 8000) (Nat.le_of_ble_eq_true rfl) (Nat.le_of_ble_eq_true rfl) ?_
  refine va_putF (D := D) (ci := 6) (v := .ref q4) (ty := (.array .int)) (own := "GateBenchModel") (ref := "GateBenchModel") (C := pz_cn 6) (T := pz_u 6) (N := pz_nf 6) hx hb (pz_lays hT 6 (pz_clq 6 (by decide)) _) (fun _ h => h) (pz_ft 6) (pz_ftok (pz_clq 6 (by decide))) (pz_nms (pz_clq 6 (by decide))) hown hK hP hD hS 0 rfl (pz_clq 6 (by decide)) 7 (by decide) (zk_w hT (w := .fieldLink "GateBenchModel" 32 "GateBenchModel" "third" "[I") (List.mem_of_getElem? (i := 609) (by decide +kernel)) (by decide +kernel) (by decide +kernel)) (fun _ h9 => h9) rfl hin rfl (by decide +kernel) rfl rfl (Nat.le_of_ble_eq_true rfl) zd_6_57 (fun H locs hP hD hS => ?_)
  have hP : va_P D pz_cl [(h0, .inr (6, [.int 0, .int 1, .int 0, .int 0, .ref q1, .ref q2, .ref q3, .ref q4, .null, .null, .null, .null, .null])), (q1, .inl (cA 0, 2000, .inl fun _ => 0)), (q2, .inl (cA 0, 2000, .inl fun _ => 0)), (q3, .inl (cA 0, 2000, .inl fun _ => 0)), (q4, .inl (cA 0, 2000, .inl fun _ => 0))] H := hP
  have hD : va_D A [(h0, .inr (6, [.int 0, .int 1, .int 0, .int 0, .ref q1, .ref q2, .ref q3, .ref q4, .null, .null, .null, .null, .null])), (q1, .inl (cA 0, 2000, .inl fun _ => 0)), (q2, .inl (cA 0, 2000, .inl fun _ => 0)), (q3, .inl (cA 0, 2000, .inl fun _ => 0)), (q4, .inl (cA 0, 2000, .inl fun _ => 0))] := hD
  refine lv_aload_n hx hb zd_6_60 rfl (lv_at hl 0 rfl) ?_
  refine lv_bipush (v := 20) hx hb zd_6_61 (by decide) ?_
  refine zk_newa (atype := .int) (ty := .int) (n := 20) (N' := 20) (a0 := (20, .inl fun _ => 0)) hx hb hT 0 rfl (Or.inl ⟨rfl, rfl⟩) hK hP hD hS hA (fun _ => rfl) (by decide) (by decide) (Nat.le_of_ble_eq_true rfl) (Nat.le_of_ble_eq_true rfl) (Nat.le_of_ble_eq_true rfl) zd_6_63 (fun q5 H hP hD hS => ?_)
  have hP : va_P D pz_cl [(h0, .inr (6, [.int 0, .int 1, .int 0, .int 0, .ref q1, .ref q2, .ref q3, .ref q4, .null, .null, .null, .null, .null])), (q1, .inl (cA 0, 2000, .inl fun _ => 0)), (q2, .inl (cA 0, 2000, .inl fun _ => 0)), (q3, .inl (cA 0, 2000, .inl fun _ => 0)), (q4, .inl (cA 0, 2000, .inl fun _ => 0)), (q5, .inl (cA 0, 20, .inl fun _ => 0))] H := hP
  have hD : va_D A [(h0, .inr (6, [.int 0, .int 1, .int 0, .int 0, .ref q1, .ref q2, .ref q3, .ref q4, .null, .null, .null, .null, .null])), (q1, .inl (cA 0, 2000, .inl fun _ => 0)), (q2, .inl (cA 0, 2000, .inl fun _ => 0)), (q3, .inl (cA 0, 2000, .inl fun _ => 0)), (q4, .inl (cA 0, 2000, .inl fun _ => 0)), (q5, .inl (cA 0, 20, .inl fun _ => 0))] := hD
  refine W.widen (k := 5) (n := 8020) (Nat.le_of_ble_eq_true rfl) (Nat.le_of_ble_eq_true rfl) ?_
  refine va_putF (D := D) (ci := 6) (v := .ref q5) (ty := (.array .int)) (own := "GateBenchModel") (ref := "GateBenchModel") (C := pz_cn 6) (T := pz_u 6) (N := pz_nf 6) hx hb (pz_lays hT 6 (pz_clq 6 (by decide)) _) (fun _ h => h) (pz_ft 6) (pz_ftok (pz_clq 6 (by decide))) (pz_nms (pz_clq 6 (by decide))) hown hK hP hD hS 0 rfl (pz_clq 6 (by decide)) 8 (by decide) (zk_w hT (w := .fieldLink "GateBenchModel" 35 "GateBenchModel" "list" "[I") (List.mem_of_getElem? (i := 610) (by decide +kernel)) (by decide +kernel) (by decide +kernel)) (fun _ h9 => h9) rfl hin rfl (by decide +kernel) rfl rfl (Nat.le_of_ble_eq_true rfl) zd_6_65 (fun H locs hP hD hS => ?_)
  have hP : va_P D pz_cl [(h0, .inr (6, [.int 0, .int 1, .int 0, .int 0, .ref q1, .ref q2, .ref q3, .ref q4, .ref q5, .null, .null, .null, .null])), (q1, .inl (cA 0, 2000, .inl fun _ => 0)), (q2, .inl (cA 0, 2000, .inl fun _ => 0)), (q3, .inl (cA 0, 2000, .inl fun _ => 0)), (q4, .inl (cA 0, 2000, .inl fun _ => 0)), (q5, .inl (cA 0, 20, .inl fun _ => 0))] H := hP
  have hD : va_D A [(h0, .inr (6, [.int 0, .int 1, .int 0, .int 0, .ref q1, .ref q2, .ref q3, .ref q4, .ref q5, .null, .null, .null, .null])), (q1, .inl (cA 0, 2000, .inl fun _ => 0)), (q2, .inl (cA 0, 2000, .inl fun _ => 0)), (q3, .inl (cA 0, 2000, .inl fun _ => 0)), (q4, .inl (cA 0, 2000, .inl fun _ => 0)), (q5, .inl (cA 0, 20, .inl fun _ => 0))] := hD
  refine lv_aload_n hx hb zd_6_68 rfl (lv_at hl 0 rfl) ?_
  refine lv_bipush (v := 12) hx hb zd_6_69 (by decide) ?_
  refine zk_newa (atype := .boolean) (ty := .boolean) (n := 12) (N' := 12) (a0 := (12, .inl fun _ => 0)) hx hb hT 1 rfl (Or.inr (Or.inl ⟨rfl, rfl⟩)) hK hP hD hS hA (fun _ => rfl) (by decide) (by decide) (Nat.le_of_ble_eq_true rfl) (Nat.le_of_ble_eq_true rfl) (Nat.le_of_ble_eq_true rfl) zd_6_71 (fun q6 H hP hD hS => ?_)
  have hP : va_P D pz_cl [(h0, .inr (6, [.int 0, .int 1, .int 0, .int 0, .ref q1, .ref q2, .ref q3, .ref q4, .ref q5, .null, .null, .null, .null])), (q1, .inl (cA 0, 2000, .inl fun _ => 0)), (q2, .inl (cA 0, 2000, .inl fun _ => 0)), (q3, .inl (cA 0, 2000, .inl fun _ => 0)), (q4, .inl (cA 0, 2000, .inl fun _ => 0)), (q5, .inl (cA 0, 20, .inl fun _ => 0)), (q6, .inl (cA 1, 12, .inl fun _ => 0))] H := hP
  have hD : va_D A [(h0, .inr (6, [.int 0, .int 1, .int 0, .int 0, .ref q1, .ref q2, .ref q3, .ref q4, .ref q5, .null, .null, .null, .null])), (q1, .inl (cA 0, 2000, .inl fun _ => 0)), (q2, .inl (cA 0, 2000, .inl fun _ => 0)), (q3, .inl (cA 0, 2000, .inl fun _ => 0)), (q4, .inl (cA 0, 2000, .inl fun _ => 0)), (q5, .inl (cA 0, 20, .inl fun _ => 0)), (q6, .inl (cA 1, 12, .inl fun _ => 0))] := hD
  refine W.widen (k := 6) (n := 8032) (Nat.le_of_ble_eq_true rfl) (Nat.le_of_ble_eq_true rfl) ?_
  refine va_putF (D := D) (ci := 6) (v := .ref q6) (ty := (.array .boolean)) (own := "GateBenchModel") (ref := "GateBenchModel") (C := pz_cn 6) (T := pz_u 6) (N := pz_nf 6) hx hb (pz_lays hT 6 (pz_clq 6 (by decide)) _) (fun _ h => h) (pz_ft 6) (pz_ftok (pz_clq 6 (by decide))) (pz_nms (pz_clq 6 (by decide))) hown hK hP hD hS 0 rfl (pz_clq 6 (by decide)) 9 (by decide) (zk_w hT (w := .fieldLink "GateBenchModel" 38 "GateBenchModel" "is" "[Z") (List.mem_of_getElem? (i := 611) (by decide +kernel)) (by decide +kernel) (by decide +kernel)) (fun _ h9 => h9) rfl hin rfl (by decide +kernel) rfl rfl (Nat.le_of_ble_eq_true rfl) zd_6_73 (fun H locs hP hD hS => ?_)
  have hP : va_P D pz_cl [(h0, .inr (6, [.int 0, .int 1, .int 0, .int 0, .ref q1, .ref q2, .ref q3, .ref q4, .ref q5, .ref q6, .null, .null, .null])), (q1, .inl (cA 0, 2000, .inl fun _ => 0)), (q2, .inl (cA 0, 2000, .inl fun _ => 0)), (q3, .inl (cA 0, 2000, .inl fun _ => 0)), (q4, .inl (cA 0, 2000, .inl fun _ => 0)), (q5, .inl (cA 0, 20, .inl fun _ => 0)), (q6, .inl (cA 1, 12, .inl fun _ => 0))] H := hP
  have hD : va_D A [(h0, .inr (6, [.int 0, .int 1, .int 0, .int 0, .ref q1, .ref q2, .ref q3, .ref q4, .ref q5, .ref q6, .null, .null, .null])), (q1, .inl (cA 0, 2000, .inl fun _ => 0)), (q2, .inl (cA 0, 2000, .inl fun _ => 0)), (q3, .inl (cA 0, 2000, .inl fun _ => 0)), (q4, .inl (cA 0, 2000, .inl fun _ => 0)), (q5, .inl (cA 0, 20, .inl fun _ => 0)), (q6, .inl (cA 1, 12, .inl fun _ => 0))] := hD
  refine lv_aload_n hx hb zd_6_76 rfl (lv_at hl 0 rfl) ?_
  refine lv_bipush (v := 12) hx hb zd_6_77 (by decide) ?_
  refine zk_newa (atype := .boolean) (ty := .boolean) (n := 12) (N' := 12) (a0 := (12, .inl fun _ => 0)) hx hb hT 1 rfl (Or.inr (Or.inl ⟨rfl, rfl⟩)) hK hP hD hS hA (fun _ => rfl) (by decide) (by decide) (Nat.le_of_ble_eq_true rfl) (Nat.le_of_ble_eq_true rfl) (Nat.le_of_ble_eq_true rfl) zd_6_79 (fun q7 H hP hD hS => ?_)
  have hP : va_P D pz_cl [(h0, .inr (6, [.int 0, .int 1, .int 0, .int 0, .ref q1, .ref q2, .ref q3, .ref q4, .ref q5, .ref q6, .null, .null, .null])), (q1, .inl (cA 0, 2000, .inl fun _ => 0)), (q2, .inl (cA 0, 2000, .inl fun _ => 0)), (q3, .inl (cA 0, 2000, .inl fun _ => 0)), (q4, .inl (cA 0, 2000, .inl fun _ => 0)), (q5, .inl (cA 0, 20, .inl fun _ => 0)), (q6, .inl (cA 1, 12, .inl fun _ => 0)), (q7, .inl (cA 1, 12, .inl fun _ => 0))] H := hP
  have hD : va_D A [(h0, .inr (6, [.int 0, .int 1, .int 0, .int 0, .ref q1, .ref q2, .ref q3, .ref q4, .ref q5, .ref q6, .null, .null, .null])), (q1, .inl (cA 0, 2000, .inl fun _ => 0)), (q2, .inl (cA 0, 2000, .inl fun _ => 0)), (q3, .inl (cA 0, 2000, .inl fun _ => 0)), (q4, .inl (cA 0, 2000, .inl fun _ => 0)), (q5, .inl (cA 0, 20, .inl fun _ => 0)), (q6, .inl (cA 1, 12, .inl fun _ => 0)), (q7, .inl (cA 1, 12, .inl fun _ => 0))] := hD
  refine W.widen (k := 7) (n := 8044) (Nat.le_of_ble_eq_true rfl) (Nat.le_of_ble_eq_true rfl) ?_
  refine va_putF (D := D) (ci := 6) (v := .ref q7) (ty := (.array .boolean)) (own := "GateBenchModel") (ref := "GateBenchModel") (C := pz_cn 6) (T := pz_u 6) (N := pz_nf 6) hx hb (pz_lays hT 6 (pz_clq 6 (by decide)) _) (fun _ h => h) (pz_ft 6) (pz_ftok (pz_clq 6 (by decide))) (pz_nms (pz_clq 6 (by decide))) hown hK hP hD hS 0 rfl (pz_clq 6 (by decide)) 10 (by decide) (zk_w hT (w := .fieldLink "GateBenchModel" 42 "GateBenchModel" "kept" "[Z") (List.mem_of_getElem? (i := 612) (by decide +kernel)) (by decide +kernel) (by decide +kernel)) (fun _ h9 => h9) rfl hin rfl (by decide +kernel) rfl rfl (Nat.le_of_ble_eq_true rfl) zd_6_81 (fun H locs hP hD hS => ?_)
  have hP : va_P D pz_cl [(h0, .inr (6, [.int 0, .int 1, .int 0, .int 0, .ref q1, .ref q2, .ref q3, .ref q4, .ref q5, .ref q6, .ref q7, .null, .null])), (q1, .inl (cA 0, 2000, .inl fun _ => 0)), (q2, .inl (cA 0, 2000, .inl fun _ => 0)), (q3, .inl (cA 0, 2000, .inl fun _ => 0)), (q4, .inl (cA 0, 2000, .inl fun _ => 0)), (q5, .inl (cA 0, 20, .inl fun _ => 0)), (q6, .inl (cA 1, 12, .inl fun _ => 0)), (q7, .inl (cA 1, 12, .inl fun _ => 0))] H := hP
  have hD : va_D A [(h0, .inr (6, [.int 0, .int 1, .int 0, .int 0, .ref q1, .ref q2, .ref q3, .ref q4, .ref q5, .ref q6, .ref q7, .null, .null])), (q1, .inl (cA 0, 2000, .inl fun _ => 0)), (q2, .inl (cA 0, 2000, .inl fun _ => 0)), (q3, .inl (cA 0, 2000, .inl fun _ => 0)), (q4, .inl (cA 0, 2000, .inl fun _ => 0)), (q5, .inl (cA 0, 20, .inl fun _ => 0)), (q6, .inl (cA 1, 12, .inl fun _ => 0)), (q7, .inl (cA 1, 12, .inl fun _ => 0))] := hD
  refine lv_aload_n hx hb zd_6_84 rfl (lv_at hl 0 rfl) ?_
  refine lv_sipush (v := 2000) hx hb zd_6_85 (by decide) ?_
  refine zk_newa (atype := .boolean) (ty := .boolean) (n := 2000) (N' := 2000) (a0 := (2000, .inl fun _ => 0)) hx hb hT 1 rfl (Or.inr (Or.inl ⟨rfl, rfl⟩)) hK hP hD hS hA (fun _ => rfl) (by decide) (by decide) (Nat.le_of_ble_eq_true rfl) (Nat.le_of_ble_eq_true rfl) (Nat.le_of_ble_eq_true rfl) zd_6_88 (fun q8 H hP hD hS => ?_)
  have hP : va_P D pz_cl [(h0, .inr (6, [.int 0, .int 1, .int 0, .int 0, .ref q1, .ref q2, .ref q3, .ref q4, .ref q5, .ref q6, .ref q7, .null, .null])), (q1, .inl (cA 0, 2000, .inl fun _ => 0)), (q2, .inl (cA 0, 2000, .inl fun _ => 0)), (q3, .inl (cA 0, 2000, .inl fun _ => 0)), (q4, .inl (cA 0, 2000, .inl fun _ => 0)), (q5, .inl (cA 0, 20, .inl fun _ => 0)), (q6, .inl (cA 1, 12, .inl fun _ => 0)), (q7, .inl (cA 1, 12, .inl fun _ => 0)), (q8, .inl (cA 1, 2000, .inl fun _ => 0))] H := hP
  have hD : va_D A [(h0, .inr (6, [.int 0, .int 1, .int 0, .int 0, .ref q1, .ref q2, .ref q3, .ref q4, .ref q5, .ref q6, .ref q7, .null, .null])), (q1, .inl (cA 0, 2000, .inl fun _ => 0)), (q2, .inl (cA 0, 2000, .inl fun _ => 0)), (q3, .inl (cA 0, 2000, .inl fun _ => 0)), (q4, .inl (cA 0, 2000, .inl fun _ => 0)), (q5, .inl (cA 0, 20, .inl fun _ => 0)), (q6, .inl (cA 1, 12, .inl fun _ => 0)), (q7, .inl (cA 1, 12, .inl fun _ => 0)), (q8, .inl (cA 1, 2000, .inl fun _ => 0))] := hD
  refine W.widen (k := 8) (n := 10044) (Nat.le_of_ble_eq_true rfl) (Nat.le_of_ble_eq_true rfl) ?_
  refine va_putF (D := D) (ci := 6) (v := .ref q8) (ty := (.array .boolean)) (own := "GateBenchModel") (ref := "GateBenchModel") (C := pz_cn 6) (T := pz_u 6) (N := pz_nf 6) hx hb (pz_lays hT 6 (pz_clq 6 (by decide)) _) (fun _ h => h) (pz_ft 6) (pz_ftok (pz_clq 6 (by decide))) (pz_nms (pz_clq 6 (by decide))) hown hK hP hD hS 0 rfl (pz_clq 6 (by decide)) 11 (by decide) (zk_w hT (w := .fieldLink "GateBenchModel" 45 "GateBenchModel" "values" "[Z") (List.mem_of_getElem? (i := 613) (by decide +kernel)) (by decide +kernel) (by decide +kernel)) (fun _ h9 => h9) rfl hin rfl (by decide +kernel) rfl rfl (Nat.le_of_ble_eq_true rfl) zd_6_90 (fun H locs hP hD hS => ?_)
  have hP : va_P D pz_cl [(h0, .inr (6, [.int 0, .int 1, .int 0, .int 0, .ref q1, .ref q2, .ref q3, .ref q4, .ref q5, .ref q6, .ref q7, .ref q8, .null])), (q1, .inl (cA 0, 2000, .inl fun _ => 0)), (q2, .inl (cA 0, 2000, .inl fun _ => 0)), (q3, .inl (cA 0, 2000, .inl fun _ => 0)), (q4, .inl (cA 0, 2000, .inl fun _ => 0)), (q5, .inl (cA 0, 20, .inl fun _ => 0)), (q6, .inl (cA 1, 12, .inl fun _ => 0)), (q7, .inl (cA 1, 12, .inl fun _ => 0)), (q8, .inl (cA 1, 2000, .inl fun _ => 0))] H := hP
  have hD : va_D A [(h0, .inr (6, [.int 0, .int 1, .int 0, .int 0, .ref q1, .ref q2, .ref q3, .ref q4, .ref q5, .ref q6, .ref q7, .ref q8, .null])), (q1, .inl (cA 0, 2000, .inl fun _ => 0)), (q2, .inl (cA 0, 2000, .inl fun _ => 0)), (q3, .inl (cA 0, 2000, .inl fun _ => 0)), (q4, .inl (cA 0, 2000, .inl fun _ => 0)), (q5, .inl (cA 0, 20, .inl fun _ => 0)), (q6, .inl (cA 1, 12, .inl fun _ => 0)), (q7, .inl (cA 1, 12, .inl fun _ => 0)), (q8, .inl (cA 1, 2000, .inl fun _ => 0))] := hD
  refine lv_aload_n hx hb zd_6_93 rfl (lv_at hl 0 rfl) ?_
  refine lv_bipush (v := 20) hx hb zd_6_94 (by decide) ?_
  refine zk_newa (atype := .int) (ty := .int) (n := 20) (N' := 20) (a0 := (20, .inl fun _ => 0)) hx hb hT 0 rfl (Or.inl ⟨rfl, rfl⟩) hK hP hD hS hA (fun _ => rfl) (by decide) (by decide) (Nat.le_of_ble_eq_true rfl) (Nat.le_of_ble_eq_true rfl) (Nat.le_of_ble_eq_true rfl) zd_6_96 (fun q9 H hP hD hS => ?_)
  have hP : va_P D pz_cl [(h0, .inr (6, [.int 0, .int 1, .int 0, .int 0, .ref q1, .ref q2, .ref q3, .ref q4, .ref q5, .ref q6, .ref q7, .ref q8, .null])), (q1, .inl (cA 0, 2000, .inl fun _ => 0)), (q2, .inl (cA 0, 2000, .inl fun _ => 0)), (q3, .inl (cA 0, 2000, .inl fun _ => 0)), (q4, .inl (cA 0, 2000, .inl fun _ => 0)), (q5, .inl (cA 0, 20, .inl fun _ => 0)), (q6, .inl (cA 1, 12, .inl fun _ => 0)), (q7, .inl (cA 1, 12, .inl fun _ => 0)), (q8, .inl (cA 1, 2000, .inl fun _ => 0)), (q9, .inl (cA 0, 20, .inl fun _ => 0))] H := hP
  have hD : va_D A [(h0, .inr (6, [.int 0, .int 1, .int 0, .int 0, .ref q1, .ref q2, .ref q3, .ref q4, .ref q5, .ref q6, .ref q7, .ref q8, .null])), (q1, .inl (cA 0, 2000, .inl fun _ => 0)), (q2, .inl (cA 0, 2000, .inl fun _ => 0)), (q3, .inl (cA 0, 2000, .inl fun _ => 0)), (q4, .inl (cA 0, 2000, .inl fun _ => 0)), (q5, .inl (cA 0, 20, .inl fun _ => 0)), (q6, .inl (cA 1, 12, .inl fun _ => 0)), (q7, .inl (cA 1, 12, .inl fun _ => 0)), (q8, .inl (cA 1, 2000, .inl fun _ => 0)), (q9, .inl (cA 0, 20, .inl fun _ => 0))] := hD
  refine W.widen (k := 9) (n := 10064) (Nat.le_of_ble_eq_true rfl) (Nat.le_of_ble_eq_true rfl) ?_
  refine va_putF (D := D) (ci := 6) (v := .ref q9) (ty := (.array .int)) (own := "GateBenchModel") (ref := "GateBenchModel") (C := pz_cn 6) (T := pz_u 6) (N := pz_nf 6) hx hb (pz_lays hT 6 (pz_clq 6 (by decide)) _) (fun _ h => h) (pz_ft 6) (pz_ftok (pz_clq 6 (by decide))) (pz_nms (pz_clq 6 (by decide))) hown hK hP hD hS 0 rfl (pz_clq 6 (by decide)) 12 (by decide) (zk_w hT (w := .fieldLink "GateBenchModel" 48 "GateBenchModel" "rest" "[I") (List.mem_of_getElem? (i := 614) (by decide +kernel)) (by decide +kernel) (by decide +kernel)) (fun _ h9 => h9) rfl hin rfl (by decide +kernel) rfl rfl (Nat.le_of_ble_eq_true rfl) zd_6_98 (fun H locs hP hD hS => ?_)
  have hP : va_P D pz_cl [(h0, .inr (6, [.int 0, .int 1, .int 0, .int 0, .ref q1, .ref q2, .ref q3, .ref q4, .ref q5, .ref q6, .ref q7, .ref q8, .ref q9])), (q1, .inl (cA 0, 2000, .inl fun _ => 0)), (q2, .inl (cA 0, 2000, .inl fun _ => 0)), (q3, .inl (cA 0, 2000, .inl fun _ => 0)), (q4, .inl (cA 0, 2000, .inl fun _ => 0)), (q5, .inl (cA 0, 20, .inl fun _ => 0)), (q6, .inl (cA 1, 12, .inl fun _ => 0)), (q7, .inl (cA 1, 12, .inl fun _ => 0)), (q8, .inl (cA 1, 2000, .inl fun _ => 0)), (q9, .inl (cA 0, 20, .inl fun _ => 0))] H := hP
  have hD : va_D A [(h0, .inr (6, [.int 0, .int 1, .int 0, .int 0, .ref q1, .ref q2, .ref q3, .ref q4, .ref q5, .ref q6, .ref q7, .ref q8, .ref q9])), (q1, .inl (cA 0, 2000, .inl fun _ => 0)), (q2, .inl (cA 0, 2000, .inl fun _ => 0)), (q3, .inl (cA 0, 2000, .inl fun _ => 0)), (q4, .inl (cA 0, 2000, .inl fun _ => 0)), (q5, .inl (cA 0, 20, .inl fun _ => 0)), (q6, .inl (cA 1, 12, .inl fun _ => 0)), (q7, .inl (cA 1, 12, .inl fun _ => 0)), (q8, .inl (cA 1, 2000, .inl fun _ => 0)), (q9, .inl (cA 0, 20, .inl fun _ => 0))] := hD
  exact W.vret hx hb hr (fun t ht hW => ⟨⟨[(h0, .inr (6, [.int 0, .int 1, .int 0, .int 0, .ref q1, .ref q2, .ref q3, .ref q4, .ref q5, .ref q6, .ref q7, .ref q8, .ref q9])), (q1, .inl (cA 0, 2000, .inl fun _ => 0)), (q2, .inl (cA 0, 2000, .inl fun _ => 0)), (q3, .inl (cA 0, 2000, .inl fun _ => 0)), (q4, .inl (cA 0, 2000, .inl fun _ => 0)), (q5, .inl (cA 0, 20, .inl fun _ => 0)), (q6, .inl (cA 1, 12, .inl fun _ => 0)), (q7, .inl (cA 1, 12, .inl fun _ => 0)), (q8, .inl (cA 1, 2000, .inl fun _ => 0)), (q9, .inl (cA 0, 20, .inl fun _ => 0))], rfl, ⟨q1, q2, q3, q4, q5, q6, q7, q8, q9, rfl⟩, by rw [ht]; exact hP, hD⟩, hS.F ht⟩) hS.2.2 zd_6_101
