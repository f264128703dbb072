/-! an exception that the code makes by its constructor of a text, and throws: the chain of constructors above it up to Throwable; no stack traces -/
section PZX
variable {p : Program} {l : Launch} {e : Env} {R : Room} {s : State} {m₀ : MethodId} {args : Array Value} {below : List Frame} {meth : Method} {c : Code} {W : State} {locs : List Loc} {cells slots : Nat}
set_option maxHeartbeats 1000000 in
theorem pz_ctor (X : Stand p l e R s m₀ args below meth c W locs cells slots) (hexec : p.tables.exec = Jvm.exec) (htr : e.platform.stackTraces = false) {cls : String} {ic ix : Nat} {b0 : ByteArray}
    (d0 : decode b0 0 = .ok (.aload_n 0, 1)) (d1 : decode b0 1 = .ok (.aload_n 1, 1)) (d2 : decode b0 2 = .ok (.invokespecial ix, 3)) (d5 : decode b0 5 = .ok (.return_, 1))
    (hown : s.vm.findClass "GateBench" = some m₀.cls) (hcls : Bundle.fit cls = true) (h : ∀ w ∈ pz_oa ic cls ix b0, w.before args s = true)
    (hlocs : ∀ x ∈ locs, ∀ cell, s.heap[x.base]? = some cell → cell.vm.isStatics = false)
    {a : Addr} {cX : ClassId} {kX : Class} (hfoundX : s.vm.findClass cls = some cX) (hkX : s.vm.classes[cX]? = some kX) (hcell : W.heap[a]? = some (freshCell cX kX)) (hnew : s.heap.size ≤ a)
    {msg : Value} (hmsg : msg.isRef = true)
    {g : JFrame} (hg : g.method = m₀) (hsize : g.locals.size = c.maxLocals) (hlocked : g.locked = none) (hentered : g.entered = []) {rest : List Value} (hstack : g.stack = msg :: .ref a :: .ref a :: rest)
    (hd6 : decode c.code g.pc = .ok (.invokespecial ic, 3)) (hd9 : decode c.code (g.pc + 3) = .ok (.athrow, 1)) (hout : ∀ x ∈ c.exceptionTable.toList, covers x (g.pc + 3) = false)
    (hRframes : 5 < R.frames) (hRlocals : 2 * g.monitorRoom + ((Value.ref a :: rest).map fun v => v.category).sum + (13 * 3 + 42) ≤ R.locals) (hlocks : meth.locks = false) :
    ∃ U : State, Steps p.tables e below (W.setTop g) U ∧ U.status = .running ∧ Ended U below (.threw a) ∧ s.WarmedH U.vm ∧ s.sameButNew ({ U with vm := s.vm } : State) locs cells slots ∧
      ∃ ce, U.heap[a]? = some ce ∧ ce.vm = .none ∧ s.vm.findClass cls = some ce.cls := by
  have howns : e.platform.frameOwnsMonitors = true := by rw [X.admits.platform]
  have hfin : e.platform.finalization = false := by rw [X.admits.platform]
  have hpl : e.platform.magicAccessors = ({} : Platform).magicAccessors := by rw [X.admits.platform]
  have u : ∀ w, w ∈ pz_oa ic cls ix b0 → w.holds args s none s [] = true := fun w hw => h w hw
  obtain ⟨T, Z0, L, -, Y⟩ := ThrowableC.of_atoms (args := args) howns hfin hpl (fun w hw => h w (by simp [pz_oa, hw]))
  obtain ⟨Z, MM, LZ, LM, hnZ⟩ := Init0T.ofS_atoms (args := args) hpl L Y (fun w hw => h w (by simp [pz_oa, hw]))
  obtain ⟨P1, L1, hP1m, hP1s⟩ := PassC.ofS_atoms (args := args) (s := s) hpl (X := cls) (Y := "java/lang/RuntimeException") (Bundle.fit_spec hcls).1 (by decide) d0 d1 d2 d5 (fun w hw => h w (by simp [pz_oa, hw]))
  obtain ⟨P2, Ps, hlen, L2, hL, hP2m, hlink2, hlink⟩ := Bundle.chainS (args := args) hpl hnZ ["java/lang/Exception"] "java/lang/RuntimeException" (by decide +kernel) (by decide +kernel) (fun w hw => h w (by simp [pz_oa, hw]))
  have hsup : P1.sup = P2.m := Option.some.inj (hP1s.symm.trans hP2m)
  have hfound : s.vm.findClass cls = some P1.m.cls := findClass_of_methodNamed hP1m
  cases Option.some.inj (hfoundX.symm.trans hfound)
  obtain ⟨c1, kX', hc1, hk, hord, -, -, hn6⟩ := Cond.instantiable_spec (u (.instantiable cls 6) (by simp [pz_oa]))
  cases Option.some.inj (hc1.symm.trans hfound)
  cases Option.some.inj (hkX.symm.trans hk)
  have hsel0 : selectMethod e.platform s.vm P1.m.cls T.fill0 = .method T.fill0 := by
    obtain ⟨c2, r2, m2, q1, q2, q3, q4, -⟩ := Cond.selects_spec (u (.selects cls Bundle.tFill0 Bundle.tFill0) (by simp [pz_oa]))
    cases Option.some.inj (q1.symm.trans hfound)
    cases Option.some.inj (q2.symm.trans (State.methodFound?_of_named Y.fill0 (by decide)))
    cases Option.some.inj (q3.symm.trans Y.fill0)
    rw [Launch.admits_selectMethod X.admits]
    exact q4
  have hselF : selectMethod e.platform s.vm P1.m.cls T.fill = .method T.fill := by
    obtain ⟨c2, r2, m2, q1, q2, q3, q4, -⟩ := Cond.selects_spec (u (.selects cls Bundle.tFill Bundle.tFill) (by simp [pz_oa]))
    cases Option.some.inj (q1.symm.trans hfound)
    cases Option.some.inj (q2.symm.trans (State.methodFound?_of_named Y.fill (by decide)))
    cases Option.some.inj (q3.symm.trans Y.fill)
    rw [Launch.admits_selectMethod X.admits]
    exact q4
  obtain ⟨cellS0, hcS0, hiss⟩ := Y.statics
  obtain ⟨u0, hu0⟩ := Cond.staticRefV Y.unassigned L.unassignedStatic L.statics hcS0 hiss (u (.isRef (.static Bundle.tN "UNASSIGNED_STACK" Bundle.steD)) (by simp [pz_oa]))
  obtain ⟨sen, hsen⟩ := Cond.staticRefV Y.sentinel L.sentinelStatic L.statics hcS0 hiss (u (.isRef (.static Bundle.tN "SUPPRESSED_SENTINEL" Bundle.listD)) (by simp [pz_oa]))
  obtain ⟨ci198, i198, fB, hk198, hg198, ha198, hsB, -, hnB, htB, hffB⟩ := Cond.ownField (t := .object "java/lang/Object") Y.found L.cls (by decide +kernel) (u (.fieldLink Bundle.tN 198 Bundle.tN "backtrace" "Ljava/lang/Object;") (by simp [pz_oa])) (u (.lays Bundle.tN Bundle.tN "backtrace" "Ljava/lang/Object;") (by simp [pz_oa])) e.platform hpl
  obtain ⟨cellS, hcS', heS, -, hkeep⟩ := X.same.2.2.2.2.2 T.aS cellS0 hcS0
  have hcellS : W.heap[T.aS]? = some cellS := hcS'
  have hout' : ∀ i, (⟨T.aS, i⟩ : Loc) ∉ locs := fun i hmem => by
    have := hlocs _ hmem cellS0 hcS0
    rw [hiss] at this
    cases this
  have hknownS : cellS.vm ≠ .unknown := by
    rw [heS]
    intro hu
    rw [show cellS0.vm = .unknown from hu] at hiss
    cases hiss
  have hneS : T.aS ≠ a := Nat.ne_of_lt (Nat.lt_of_lt_of_le (Array.getElem?_eq_some_iff.mp hcS0).1 hnew)
  obtain ⟨iM, hffM⟩ := Y.msg
  obtain ⟨tyC, dC, hdC, hdnC⟩ := Cond.laysAt hfound hk Y.cause (u (.lays cls Bundle.tN "cause" "Ljava/lang/Throwable;") (by simp [pz_oa]))
  obtain ⟨tyS, dS, hdS, hdnS⟩ := Cond.laysAt hfound hk Y.stack (u (.lays cls Bundle.tN "stackTrace" Bundle.steD) (by simp [pz_oa]))
  obtain ⟨tyP, dP, hdP, hdnP⟩ := Cond.laysAt hfound hk Y.supp (u (.lays cls Bundle.tN "suppressedExceptions" Bundle.listD) (by simp [pz_oa]))
  obtain ⟨tyM, dM, hdM, hdnM⟩ := Cond.laysAt hfound hk hffM (u (.lays cls Bundle.tN "detailMessage" "Ljava/lang/String;") (by simp [pz_oa]))
  obtain ⟨tyB, dB, hdB, hdnB⟩ := Cond.laysAt hfound hk hffB (u (.lays cls Bundle.tN "backtrace" "Ljava/lang/Object;") (by simp [pz_oa]))
  have bC := Cond.laysApart hdB hdC hdnB hdnC (by rw [hnB, Y.causeName]; decide)
  have bS := Cond.laysApart hdB hdS hdnB hdnS (by rw [hnB, Y.stackName]; decide)
  have bP := Cond.laysApart hdB hdP hdnB hdnP (by rw [hnB, Y.suppName]; decide)
  have hskip : SkipFacts T e.platform s (fun u => u) u0 ((preparedCellV T.toThrowableT (freshCell P1.m.cls kX) a u0 sen).withEntry W.cur) :=
    ⟨{ ci198 := ci198, i198 := i198, fBack := fB }, ⟨hk198, hg198, ha198, hsB⟩, by
      have := fresh_default (c := P1.m.cls) tyB
      rw [htB] at this
      simpa [preparedCellV, Cell.setSlot, Cell.withEntry, Array.getElem?_setIfInBounds, bC, bS, bP, bC.symm, bS.symm, bP.symm, defaultValue] using this, fun _ _ => rfl⟩
  obtain ⟨tm, methC, cdC, kC, vm₁, hnC, -, -, -, -, -, -, -, hW₁, st1⟩ := Steps.initColdS (tb := p.tables) (e := e) (below := below) (s := s) (U := W) X.here hexec X.warmed hpl hown (t := Bundle.initS cls) rfl rfl (Bundle.fit_spec hcls).2
    (u (.methodLink "GateBench" ic (Bundle.initS cls)) (by simp [pz_oa])) (h (.instanceMethod (Bundle.initS cls)) (by simp [pz_oa, Bundle.passSAtoms])) (bytes := b0) (maxL := 2) (h (.code (Bundle.initS cls) b0 2 none) (by simp [pz_oa, Bundle.passSAtoms]))
    (f := g) hg (a := a) (msg := msg) (rest := .ref a :: rest) hstack hd6
  cases Option.some.inj (hnC.symm.trans hP1m)
  have X₁ := X.noted hW₁
  obtain ⟨vm₂, X₂, st2⟩ := X₁.ctorMessageOffV hexec (g := { g with stack := .ref a :: rest }) hg hsize T L Z LZ MM LM (P1 :: P2 :: Ps)
    (fun P hP => by
      rcases List.mem_cons.mp hP with rfl | hP
      · exact L1
      · rcases List.mem_cons.mp hP with rfl | hP
        · exact L2
        · exact hL P hP) ⟨hsup, hlink2, hlink⟩ (u0 := u0) (sen := sen) (self := a) hmsg (cell := freshCell P1.m.cls kX) (cellS := cellS)
    hcell (fun _ => by simp) (by simp) rfl rfl hsel0 hselF hcellS hneS hknownS (by rw [hkeep _ (hout' _)]; exact hu0) (by rw [hkeep _ (hout' _)]; exact hsen)
    (Takes.of_laid hk hord tyC (by rw [Y.causeType]; rfl)) (Takes.of_laid hk hord tyS (by rw [Y.stackType]; exact fits_refV_array _ u0)) (Takes.of_laid hk hord tyP (by rw [Y.suppType]; exact fits_refV_object _ sen))
    (Takes.of_laid hk hord tyM (by rw [Y.msgType]; exact fits_refV_object _ ⟨msg, hmsg⟩)) Y.objLocals hskip htr [] hd6
    (by simp only [List.length_cons, hlen]; simp; omega) (by simp only [List.length_cons, hlen]; exact hRlocals)
  obtain ⟨hwalk, hrun, hended, hWU, hsame⟩ := X₂.athrowLeaves hexec (g := { g with stack := .ref a :: rest, pc := g.pc + 3 }) hg hlocked hentered hout (a := a) (rest := rest) rfl hd9
  have hlt : a < ((W.setVm vm₁).setVm vm₂).heap.size := (Array.getElem?_eq_some_iff.mp hcell).1
  have hU := heapAt_setCell_self (s := (W.setVm vm₁).setVm vm₂) (plainBareV T.toThrowableT (freshCell P1.m.cls kX) a u0 sen msg) hlt
  refine ⟨_, st1 _ (fun acts => ?_), hrun, hended, hWU, hsame.weaken (fun y hy hlt' => ?_) (Nat.le_refl _) (Nat.le_refl _), _, hU, rfl, hfound⟩
  · rw [doInvoke_state]
    exact st2 _ hwalk
  · rcases List.mem_append.mp hy with h1 | h1
    · exact h1
    · exfalso
      have hb : y.base = a := by
        simp only [List.mem_cons, List.not_mem_nil, or_false] at h1
        rcases h1 with rfl | rfl | rfl | rfl | rfl <;> rfl
      rw [hb] at hlt'
      exact Nat.not_lt.mpr hnew hlt'
end PZX
section PZ6
variable {G : pz_G} {k pc len : Nat} {ls : pm_L} {st : List pm_V} {M : pm_M} {Q : pm_P}
theorem z_throw {index kd sx ic : Nat} (hd : decode (pm_bytes k) pc = .ok (.new index, 3)) (ht : (k, pc, index, kd, sx, ic) ∈ pm_thr) (hs : st = []) (hb1 : 1 ≤ M 99 0) (hq : Q (.inr kd) (pm_set M 99 0 (M 99 0 - 1))) : pz_Z G (k, pc, ls, st, M) Q := by
  subst hs
  intro k1 k2 k3 k4 p e R s m args below meth cd H locs cells slots LS tc ts h1 h2 h3 h4 h5 h6 h7 h8 h9
  dsimp only at k1 k2 k3 k4 h1 h2 h3 h4 h5 h6 h7 h8 h9 ⊢
  obtain ⟨⟨d3, d4, d6, d9⟩, ow, hh, hrk⟩ := pz_site _ ht
  obtain ⟨⟨w1, w2, w3, w4⟩, w5⟩ := pz_xw _ ht
  dsimp only at d3 d4 d6 d9 ow hh hrk w1 w2 w3 w4 w5
  have hbM : 1 ≤ pz_b M := by unfold pz_b; omega
  have hb' : pz_b (pm_set M 99 0 (M 99 0 - 1)) = pz_b M - 1 := by unfold pz_b; rw [pm_get_e]; omega
  have hx := h1.1
  have hbt := h1.2.1
  have hlocks : meth.locks = false := h1.2.2.2.1
  have hTh0 : pz_Th G.2.2.1 s s.heap := h1.2.2.2.2.2.2.2.1
  have hfr : pm_rank k ≤ R.frames := h1.2.2.2.2.2.2.2.2.1
  have hlo : 40 * pm_rank k ≤ R.locals := h1.2.2.2.2.2.2.2.2.2.1
  have hml : cd.maxLocals = pm_mL k := h1.2.2.2.2.2.2.2.2.2.2.1
  have htab : pz_tab k cd := h1.2.2.2.2.2.2.2.2.2.2.2.1
  have hst : G.1.stackTraces = false := h1.2.2.2.2.2.2.2.2.2.2.2.2.2.2.1
  have hown0 := h1.own
  rw [ow] at hown0
  intro T hT X
  subst hT
  have Y := pz_rebase X (by omega) (by omega)
  have htr : e.platform.stackTraces = false := by rw [X.admits.platform]; exact hst
  have hT' : pz_T (T.setFrames (.invoking m args :: below)) := pz_T.moved (U := T.setFrames (.invoking m args :: below)) X.warmed h1.T
  have hkept : ∀ a : Nat, a < s.heap.size → ¬ pz_W G.2.2.1 a → T.heap[a]? = s.heap[a]? := fun a ha hna => h7.2.1 a ha (fun z => z.elim hna (fun z => by omega))
  have hTh' : pz_Th G.2.2.1 (T.setFrames (.invoking m args :: below)) (T.setFrames (.invoking m args :: below)).heap :=
    ⟨(hTh0.1.moved (U := T.setFrames (.invoking m args :: below)) X.warmed.alike).kept hkept, (hTh0.2.moved (U := T.setFrames (.invoking m args :: below)) X.warmed.alike).kept hkept⟩
  have hown' : (T.setFrames (.invoking m args :: below)).vm.findClass "GateBench" = some m.cls := (X.warmed.alike.findClass ..).trans hown0
  have use : ∀ w, w ∈ tables_1 → pz_ok w = true → w.before #[] (T.setFrames (.invoking m args :: below)) = true := fun w hw hk => hT' w (List.mem_append_right _ hw) hk
  obtain ⟨vm₁, cX, kX, hfX, hkX, -, hsz, X₁, st1⟩ := Y.newCold hx (own := "GateBench") (C := pz_xn kd) (index := index) (n := 6) hown' (va_tabs rfl rfl (use _ w1 rfl)) (va_tabs rfl rfl (use _ w3 rfl)) (va_tabs rfl rfl (use _ w2 rfl))
    (g := F0 m pc LS []) rfl (by rw [hbt]; exact hd) (by show 0 + 1 ≤ R.cells - cells; omega) (by show 0 + 6 ≤ R.slots - slots; omega)
  generalize hTT : (T.setVm vm₁).pushCell { cls := cX, slots := kX.instanceTypes.map defaultValue, vm := .none } = T1 at X₁ st1
  have hcellA : T1.heap[T.heap.size]? = some (freshCell cX kX) := by rw [← hTT]; exact State.heap_pushCell_size _ _
  have hstr : (Cond.stringRef "GateBench" sx (pz_tx sx)).before args (T.setFrames (.invoking m args :: below)) = true := use _ w4 rfl
  obtain ⟨-, -, -, sa, -, -, -, -, -, hev⟩ := Cond.stringRef_spec hown' hstr
  have hsz2 : LS.size = cd.maxLocals := by rw [hml]; exact h8.1
  have hno : cd.exceptionTable.toList = [] := by
    unfold pz_tab at htab
    rw [hh] at htab
    exact List.map_eq_nil_iff.mp htab
  obtain ⟨b1, b2, b3, b4⟩ := pz_by0 kd (pz_kd3 _ ht)
  obtain ⟨U, hsteps, hrun, hend, hW, hsame, ce, hce, kvm, kcls⟩ := pz_ctor X₁ hx htr (cls := pz_xn kd) (ic := ic) b1 b2 b3 b4 hown' w5 (pz_own hT' hTh' ht args) (fun y hy => by cases hy) hfX hkX hcellA (Nat.le_refl _) (msg := .ref sa) rfl
    (g := F0 m (pc + 6) LS [.ref sa, .ref T.heap.size, .ref T.heap.size]) rfl hsz2 rfl rfl (rest := []) rfl (by rw [hbt]; exact d6) (by rw [hbt]; exact d9) (by rw [hno]; exact fun x z => by cases z) (by show 5 < R.frames; omega) (by show 2 * 0 + 1 + (13 * 3 + 42) ≤ R.locals; omega) hlocks
  have hkeep : ∀ (a : Addr) (cell : Cell), T.heap[a]? = some cell → U.heap[a]? = some cell := fun a cell hc => pz_keep hsame hc
  have hgrow : T.heap.size ≤ U.heap.size := hsame.2.1
  have heq : ∀ a : Nat, a < T.heap.size → U.heap[a]? = T.heap[a]? := by
    intro a ha
    have := Array.getElem?_eq_getElem ha
    rw [hkeep a _ this, this]
  refine ⟨U, ?_, .threw T.heap.size, .inr kd, _, hrun, hend, hq, ⟨T.heap.size, ce, rfl, hce, kvm, ?_⟩, ⟨pm_R_set k3 ?_, h9.set (by decide)⟩, ?_, ?_, State.WarmedH.trans X.warmed (show T.WarmedH U.vm from hW), ?_, locs, h7.2.2, ?_, ?_⟩
  · refine st1 _ ?_
    show Steps p.tables e below (T1.setTop (F0 m (pc + 3) LS [.ref T.heap.size])) U
    have d3' : decode cd.code (pc + 3) = .ok (.dup, 1) := by rw [hbt]; exact d3
    jvm_step X₁.here [X₁.here.top, hx, d3', Value.category]
    exact X₁.ldcString hx (own := "GateBench") (text := pz_tx sx) (index := sx) (a := sa) hown' hstr hev (g := F0 m (pc + 4) LS [.ref T.heap.size, .ref T.heap.size]) rfl (by rw [hbt]; exact d4) _ hsteps
  · exact (X.warmed.alike.findClass ..).symm.trans kcls
  · have := k3 99 0
    unfold pm_R at *
    omega
  · rw [hb']; omega
  · rw [hb']; omega
  · rw [pz_99]
    exact h6.kept (fun j q hj => by
      obtain ⟨d, hdd, -, rfl⟩ := pz_to hj
      exact heq _ (h6 j _ hj).lt)
  · rw [hb']
    have hs3 : (T.setVm s.vm).sameButNew ({ U with vm := s.vm } : State) [] 1 6 := by
      obtain ⟨e2, q⟩ := hsame
      refine ⟨?_, q⟩
      rw [State.setFrames_setFrames] at e2
      have e3 := congrArg (fun S : State => S.setVm s.vm) e2
      exact e3
    have hs4 := X.same.trans hs3
    rw [List.append_nil] at hs4
    exact hs4.mono (by omega) (by omega)
  · refine ⟨Nat.le_trans h7.1 hgrow, fun q h9 h10 => ?_⟩
    rw [heq q (Nat.lt_of_lt_of_le h9 h7.1)]
    exact h7.2.1 q h9 h10
end PZ6
