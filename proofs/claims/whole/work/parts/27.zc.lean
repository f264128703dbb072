section PZC
variable {p : Program} {l : Launch} {e : Env} {R : Room} {s : State} {m : MethodId} {args : Array Value} {below : List Frame} {meth : Method} {c : Code} {U : State} {locs : List Loc} {cells slots : Nat}
/-- a call by a contract that says how it ends: it returned, or it threw -/
theorem pz_run (X : Stand p l e R s m args below meth c U locs cells slots) {y : MethodName} {S : Spec} {P : Array Value → State → Prop} {Q : Array Value → State → Outcome → State → Prop} {E : Outcome → State → List Loc → Nat → Nat → Prop} (hM : MetFree l y S P (fun _ _ _ _ _ => True) Q)
    {g : JFrame} (hg : g.method = m) (hsize : g.locals.size = c.maxLocals) {ig : Instr} (hdg : decode c.code g.pc = .ok (ig, 3)) {mk : MethodId} {a : Array Value} (hn : U.methodNamed? y = some mk)
    {methY : Method} {cY : Code} (hmY : U.vm.method? mk = some methY) (hcY : methY.code = some cY) (hini : (Cond.initialized y.cls).before a U = true) (hpre : S.pre.before a U = true)
    (hfr : S.room.frames + 1 ≤ R.frames) (hlo : 2 * g.monitorRoom + (g.stack.map fun v => v.category).sum + (cY.maxLocals + 11) + S.room.locals ≤ R.locals) (hce : cells + S.room.cells ≤ R.cells) (hsl : slots + S.room.slots ≤ R.slots)
    (hP : P a (U.calling g mk a)) (hQ : ∀ o t, Q a (U.calling g mk a) o t → ∃ L k n, (U.calling g mk a).WarmedH t.vm ∧ (U.calling g mk a).sameButNew ({ t with vm := (U.calling g mk a).vm } : State) L k n ∧ E o t L k n) :
    ∃ (o : Outcome) (t B : State) (L : List Loc) (k n : Nat), Steps p.tables e below (doInvoke e (U.setTop g) [] mk a).1 t ∧ Q a (U.calling g mk a) o t ∧ E o t L k n ∧ Stand p l e R s m args below meth c B (locs ++ L) (cells + k) (slots + n) ∧ B.heap = t.heap ∧ B.vm = t.vm ∧
      (∀ v, o = .returned v → t = B.setTop { g with pc := g.pc + 3, stack := v.toList ++ g.stack }) ∧ (∀ x, o = .threw x → t = (B.setTop g).pushFrame (.throwing x)) := by
  subst hg
  have h := X.here
  obtain ⟨kY, hkY, -⟩ := className_of_methodNamed hn
  have hi := Cond.initialized_spec (findClass_of_methodNamed hn) hkY hini
  have happ : S.appliesLoose y e.platform (U.calling g mk a) = true :=
    Spec.appliesLoose_calling (g := g) h hdg hn hkY hi (X.room_calling (g := g) (R' := S.room) hsize hmY hcY hfr hlo hce hsl) hpre
  obtain ⟨mid, hmid⟩ := h.above
  have hfs : (U.setTop g).frames = (.java g :: mid) ++ below := by rw [State.frames_setTop' g h.top, hmid]; rfl
  obtain ⟨o, t, hst, -, hend, hq⟩ := Steps.callFree hM p X.admits X.cas X.clock (acts := []) hfs happ hP trivial
  have hq : Q a (U.calling g mk a) o t := hq
  rw [State.frames_setTop' g h.top] at hend
  obtain ⟨L, k, n, hW, ⟨e2, q2, q3, q4, q5, q6⟩, hE⟩ := hQ o t hq
  obtain ⟨g₀, hg0⟩ := Option.isSome_iff_exists.mp h.top
  obtain ⟨r, hr⟩ := State.topJava?_eq_some.mp hg0
  have hW' : U.WarmedH t.vm := hW
  have e3 : t = ({ (U.calling g mk a).setFrames t.frames with heap := t.heap, slotsUsed := t.slotsUsed } : State).setVm t.vm := by
    have e4 : t = ({ t with vm := (U.calling g mk a).vm } : State).setVm t.vm := rfl
    rw [e2] at e4
    exact e4
  have hsame : U.sameButNew ({ U with heap := t.heap, slotsUsed := t.slotsUsed } : State) L k n := by
    refine ⟨?_, q2, q3, q4, q5, q6⟩
    obtain ⟨th, ht, -⟩ := State.frames_cons hr
    show ({ U with heap := t.heap, slotsUsed := t.slotsUsed } : State) = { U.setFrames U.frames with heap := t.heap, slotsUsed := t.slotsUsed }
    rw [State.setFrames_self ht]
  have hrB : (({ U with heap := t.heap, slotsUsed := t.slotsUsed } : State).setVm t.vm).frames = .java g₀ :: r := hr
  refine ⟨o, t, (({ U with heap := t.heap, slotsUsed := t.slotsUsed } : State).setVm t.vm), L, k, n, hst, hq, hE,
    ⟨X.admits, X.cas, X.clock, X.frames, X.room, X.hears, X.method, X.code, (X.here.setHeapUsed t.heap t.slotsUsed).setVm hW'.alike, X.tail, State.WarmedH.trans X.warmed hW', X.limits, X.bytes, X.same.trans (hsame.setVm s.vm)⟩, rfl, rfl, ?_, ?_⟩
  · intro v hv
    subst hv
    obtain ⟨c₂, i₂, len₂, hc₂, hd₂, hf₂⟩ := hend
    have hcc : c₂ = c := by
      have h1 : t.code? g.method = U.code? g.method := by rw [State.code?_eq, State.code?_eq, hW'.alike.method?]
      exact Option.some.inj (hc₂.symm.trans (h1.trans h.code))
    subst hcc
    rw [hdg] at hd₂
    cases hd₂
    refine e3.trans ?_
    rw [hf₂, State.calling_eq h.top, State.setFrames_setFrames, State.setTop_of_frames _ hrB, hr]
    rfl
  · intro x hx
    subst hx
    have hf₂ : t.frames = .throwing x :: .java g :: U.frames.tail := hend
    refine e3.trans ?_
    rw [hf₂, State.calling_eq h.top, State.setFrames_setFrames, State.setTop_of_frames _ hrB, hr]
    unfold State.pushFrame
    have hcur : U.cur < U.threads.size := State.cur_lt_of_frames hr
    rw [State.frames_setFrames _ (by exact hcur), State.setFrames_setFrames]
    rfl
end PZC
