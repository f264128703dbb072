/-! CAUGHT: the search through the rows of a handler table, whose types may not be resolved yet -/
def pz_ct (kd : Nat) : Nat := [19, 13, 25].getD kd 0
theorem pz_ctw : ∀ j, j < 3 → (Cond.classLink "GateBenchLaw" (pz_ct j) (pz_xn j) ∈ tables_1 ∧ Cond.castable (pz_xn j) (pz_xn j) ∈ tables_1) ∧ pz_ct j ≠ 0 := by decide +kernel
section PZK
variable {Q : Handler → Pre} {E : CtlPost} {e : Env} {d : Bool} {acts : List Action} {s : State} {f : JFrame} {a : Addr}
theorem pz_cold {x : ExceptionTableEntry} {t : List ExceptionTableEntry} {c : ClassId} {vm' : Vm} (hx : covers x f.pc = true) (h0 : x.catchType ≠ 0) (hg : (Jvm.resolveClass f.method.cls x.catchType).Gives e.toSetting s.vm (.ok c) vm') (hr : vm'.classReady f.method.cls x.catchType c) (hsz : vm'.classes.size ≤ s.vm.classes.size) :
    wp (findHandler.go f a (x :: t)) Q E e d acts s ↔ wp (findHandler.go f a (x :: t)) Q E e d acts (s.setVm vm') := by
  simp only [covers] at hx
  obtain ⟨ha, ht⟩ := hg.op (op := VmOp.resolveClass f.method.cls x.catchType) rfl
  obtain ⟨k, hkd, hres⟩ := hr
  have hm := resolveClass_memo (vm := vm') e hkd hres
  simp [findHandler.go, hx, h0, ha, ht, hsz, hm, VmOp.dirties, VmOp.acts]
  exact Iff.rfl
/-- the first row of that type -/
def pz_fnd : List (Nat × Nat) → Nat → Option Nat
  | [], _ => none
  | x :: r, ct => if x.2 = ct then some x.1 else pz_fnd r ct
theorem pz_ctinj : ∀ i, i < 3 → ∀ j, j < 3 → pz_ct i = pz_ct j → i = j := by decide
theorem pz_go {s₀ : State} (hT : pz_T s₀) (hN : pz_Nx s₀) (hown : s₀.vm.findClass "GateBenchLaw" = some f.method.cls) (hpl : e.platform.magicAccessors = ({} : Platform).magicAccessors) {kd : Nat} (hkd : kd < 3) {cell : Cell} (hcls : s₀.vm.findClass (pz_xn kd) = some cell.cls) (hvm : cell.vm = .none) {h0 : Nat} :
    ∀ (es : List ExceptionTableEntry) (S : State), s₀.WarmedH S.vm → S.heap[a]? = some cell → (∀ x ∈ es, covers x f.pc = true ∧ ∃ j, j < 3 ∧ x.catchType = pz_ct j) → pz_fnd (es.map (fun h => (h.handlerPc, h.catchType))) (pz_ct kd) = some h0 →
      ∃ vm', s₀.WarmedH vm' ∧ ∀ (Q : Handler → Pre) (E : CtlPost) (d : Bool) (acts : List Action), wp (findHandler.go f a es) Q E e d acts S ↔ Q (.found h0) d acts (S.setVm vm') := by
  intro es
  induction es with
  | nil => intro S _ _ _ hf; cases hf
  | cons x t ih =>
    intro S hW hc hes hf
    obtain ⟨hx, j, hj, hct⟩ := hes x List.mem_cons_self
    obtain ⟨⟨w1, w2⟩, w3⟩ := pz_ctw j hj
    have hcl := hT _ (List.mem_append_right _ w1) rfl
    obtain ⟨cc, hfcc, hlk⟩ := Cond.classLink_spec hown hcl e.platform hpl
    rw [← hct] at hlk
    obtain ⟨hg₁, hwarm₁, hready₁⟩ := State.classEntry (e := e) hW hlk
    have hsz : (S.vm.noted f.method.cls x.catchType (.cls cc)).classes.size ≤ S.vm.classes.size := by rw [Vm.size_noted]; exact Nat.le_refl _
    generalize S.vm.noted f.method.cls x.catchType (.cls cc) = vm₁ at hg₁ hwarm₁ hready₁ hsz
    have h00 : x.catchType ≠ 0 := by rw [hct]; exact w3
    have hfk : vm₁.findClass (pz_xn kd) = some cell.cls := (hwarm₁.alike.findClass ..).trans hcls
    have hfj : vm₁.findClass (pz_xn j) = some cc := (hwarm₁.alike.findClass ..).trans hfcc
    have step : ∀ (Q : Handler → Pre) (E : CtlPost) (d : Bool) (acts : List Action), wp (findHandler.go f a (x :: t)) Q E e d acts S ↔ if vm₁.assignable cell.cls cc = true then Q (.found x.handlerPc) d acts (S.setVm vm₁) else wp (findHandler.go f a t) Q E e d acts (S.setVm vm₁) := by
      intro Q E d acts
      rw [pz_cold hx h00 hg₁ hready₁ hsz]
      exact W.findHandler_go_class (s := S.setVm vm₁) hx h00 hready₁ hc (fun k => by rw [hvm]; exact fun z => by cases z) (Vm.classAt_of_findClass hfk) (Vm.classAt_of_findClass hfj)
    by_cases hjk : j = kd
    · subst hjk
      have hca := hT _ (List.mem_append_right _ w2) rfl
      obtain ⟨c1, t1, q1, q2, q3⟩ := Cond.castable_spec hca
      cases hcls.symm.trans q1
      cases hfcc.symm.trans q2
      have has : vm₁.assignable cell.cls cc = true := by rw [hwarm₁.alike.assignable]; exact q3
      refine ⟨vm₁, hwarm₁, fun Q E d acts => ?_⟩
      rw [step, if_pos has]
      have : x.handlerPc = h0 := by
        have hf : (if x.catchType = pz_ct j then some x.handlerPc else _) = some h0 := hf
        rw [if_pos hct] at hf
        exact Option.some.inj hf
      rw [this]
    · obtain ⟨c1, t1, q1, q2, q3⟩ := hN kd j hkd hj (fun z => hjk z.symm)
      cases hcls.symm.trans q1
      cases hfcc.symm.trans q2
      have has : vm₁.assignable cell.cls cc = false := by rw [hwarm₁.alike.assignable]; exact q3
      have hf' : pz_fnd (t.map (fun h => (h.handlerPc, h.catchType))) (pz_ct kd) = some h0 := by
        have hf : (if x.catchType = pz_ct kd then some x.handlerPc else pz_fnd (t.map (fun h => (h.handlerPc, h.catchType))) (pz_ct kd)) = some h0 := hf
        rw [if_neg (fun z => hjk (pz_ctinj j hj kd hkd (hct.symm.trans z)))] at hf
        exact hf
      obtain ⟨vm', hw', hq⟩ := ih (S.setVm vm₁) hwarm₁ hc (fun y hy => hes y (List.mem_cons_of_mem _ hy)) hf'
      refine ⟨vm', hw', fun Q E d acts => ?_⟩
      rw [step, if_neg (by rw [has]; decide)]
      exact hq Q E d acts
end PZK
section PZK2
variable {tb : Tables} {e : Env} {s target : State} {g : JFrame} {c : Code} {below : List Frame} {a : Addr}
theorem pz_caught (h : At s g.method c below) {pc : Nat} {vm' : Vm} (hfind : ∀ (Q : Handler → Pre) (E : CtlPost) (d : Bool) (acts : List Action), wp (findHandler g a) Q E e d acts ((s.setTop g).pushFrame (.throwing a)) ↔ Q (.found pc) d acts (((s.setTop g).pushFrame (.throwing a)).setVm vm'))
    (hrest : Steps tb e below ((s.setVm vm').setTop { g with pc := pc, stack := [.ref a] }) target) :
    Steps tb e below ((s.setTop g).pushFrame (.throwing a)) target := by
  obtain ⟨hgo, hw⟩ := h.throwing a
  refine Steps.head hgo hw ?_
  have hst : (stepThrowing e ((s.setTop g).pushFrame (.throwing a)) a (.java g :: s.frames.tail)).Is ((((s.setTop g).pushFrame (.throwing a)).setVm vm').setFrames (.java { g with pc := pc, stack := [.ref a] } :: s.frames.tail)) [] := by
    simp only [stepThrowing, searchFrame, vmDo]
    generalize hr : Sem.go _ e false [] ((s.setTop g).pushFrame (.throwing a)) = res
    obtain ⟨as, rfl, ha⟩ := Sem.eq_ok_of hr (a := Handler.found pc) (s' := ((s.setTop g).pushFrame (.throwing a)).setVm vm') (acts' := []) (by simp [hfind _ _ _ _])
    exact ⟨rfl, ha⟩
  rw [stepThread_throwing (frames_entered h.top _), hst.1]
  obtain ⟨g₀, hg⟩ := Option.isSome_iff_exists.mp h.top
  obtain ⟨r, hr⟩ := State.topJava?_eq_some.mp hg
  have e1 : (s.setVm vm').setTop { g with pc := pc, stack := [.ref a] } = (((s.setTop g).pushFrame (.throwing a)).setVm vm').setFrames (.java { g with pc := pc, stack := [.ref a] } :: s.frames.tail) := by
    have hr2 : (s.setVm vm').frames = .java g₀ :: r := hr
    rw [State.setTop_of_frames _ hr2, State.setTop_of_frames _ hr, hr]
    show (s.setVm vm').setFrames (.java { g with pc := pc, stack := [.ref a] } :: r) = (((s.setFrames (.java g :: r)).setFrames (.throwing a :: (s.setFrames (.java g :: r)).frames)).setFrames (.java { g with pc := pc, stack := [.ref a] } :: r)).setVm vm'
    rw [State.setFrames_setFrames, State.setFrames_setFrames]
    rfl
  rw [← e1]
  exact hrest
end PZK2
