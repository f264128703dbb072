section PZ4
variable {p : Program} {l : Launch} {e : Env} {R : Room} {s : State} {m : MethodId} {args : Array Value} {below : List Frame} {meth : Method} {c : Code} {H : Heap} {locs : List Loc} {cells slots : Nat}
theorem pz_Wm {Q Q' : State → Prop} {g : JFrame} (h : W p l e R s m args below meth c H locs cells slots Q g) (hq : ∀ t, Q t → Q' t) : W p l e R s m args below meth c H locs cells slots Q' g := by
  intro T hT X
  obtain ⟨t, a, b⟩ := h T hT X
  exact ⟨t, a, hq t b⟩
/-- the same walk, seen from where it stands -/
theorem pz_rebase {T : State} (X : Stand p l e R s m args below meth c T locs cells slots) (h1 : cells ≤ R.cells) (h2 : slots ≤ R.slots) :
    Stand p l e { R with cells := R.cells - cells, slots := R.slots - slots } (T.setFrames (.invoking m args :: below)) m args below meth c T [] 0 0 := by
  obtain ⟨g₀, hfr⟩ := X.frames_eq
  have hcur : T.cur < T.threads.size := State.cur_lt_of_frames hfr
  obtain ⟨th, ht, -⟩ := State.frames_cons hfr
  have hf' : (T.setFrames (.invoking m args :: below)).frames = .invoking m args :: below := State.frames_setFrames _ hcur
  refine ⟨X.admits, X.cas, X.clock, hf', ?_, ?_, X.method', X.code, X.here, X.tail, State.WarmedH.refl _, ?_, ?_, ?_⟩
  · have hr := X.room
    have e1 := State.localsInUse_invoking X.frames X.method X.code
    have e2 := State.localsInUse_invoking hf' (show (T.setFrames (.invoking m args :: below)).vm.method? m = some meth from X.method') X.code
    have e3 := X.heapSize
    have e4 := X.used
    simp only [State.hasRoom, Bool.and_eq_true, decide_eq_true_eq] at hr ⊢
    have e5 : e.platform.stackLimits (T.setFrames (.invoking m args :: below)).me = e.platform.stackLimits s.me := by rw [State.stackLimits_setFrames]; exact X.limits
    have e6 : (T.setFrames (.invoking m args :: below)).me.stackBytes = s.me.stackBytes := by rw [State.stackBytes_setFrames]; exact X.bytes
    have e7 : (T.setFrames (.invoking m args :: below)).heap = T.heap := rfl
    have e8 : (T.setFrames (.invoking m args :: below)).slotsUsed = T.slotsUsed := rfl
    rw [e2, e5, e6, hf', e7, e8]
    rw [e1, X.frames] at hr
    obtain ⟨⟨⟨⟨r1, r2⟩, r3⟩, r4⟩, r5⟩ := hr
    exact ⟨⟨⟨⟨r1, r2⟩, by omega⟩, by omega⟩, X.book⟩
  · have hh := X.hears
    unfold State.hears at hh ⊢
    have hm : ∀ q, (T.setFrames (.invoking m args :: below)).vm.method? q = s.vm.method? q := fun q => X.warmed.alike.method? ..
    rcases below with _ | ⟨y, r⟩
    · dsimp only at hh ⊢
      rw [hm]
      exact hh
    · cases y <;> first | exact hh | (simp only [State.code?_eq, hm] at hh ⊢; exact hh)
  · rw [State.stackLimits_setFrames]
  · rw [State.stackBytes_setFrames]
  · have hh := (State.sameButNew.refl (T.setFrames (.invoking m args :: below)) (State.frames_cons hf').choose_spec.1).setFrames T.frames (State.cur_lt_of_frames hf')
    rw [State.setFrames_setFrames, State.setFrames_self ht] at hh
    exact hh
end PZ4
section PZ5
variable {G : pz_G} {k pc len : Nat} {ls : pm_L} {st : List pm_V} {M : pm_M} {Q : pm_P}
theorem z_ireturn {x : Int} (hs : st = [.inl x]) (hr : pm_ret k = 1 ∨ pm_ret k = 2 ∧ pm_bit x) (hd : decode (pm_bytes k) pc = .ok (.ireturn, 1)) (hq : Q (.inl (some (.inl x))) M) : pz_Z G (k, pc, ls, st, M) Q := by
  subst hs
  intro k1 k2 k3 k4 p e R s m args below meth cd H locs cells slots LS tc ts h1 h2 h3 h4 h5 h6 h7 h8 h9
  dsimp only at k1 k2 k3 k4 h1 h2 h3 h4 h5 h6 h7 h8 h9 ⊢
  have hlocks : meth.locks = false := h1.2.2.2.1
  have hrt : ∃ ty, meth.sig.returnType = some ty ∧ narrow ty (.int (Int32.ofInt x)) = .int (Int32.ofInt x) := by
    rcases hr with hr | ⟨hr, hb⟩
    · exact ⟨.int, by rw [h1.2.2.1, hr]; rfl, rfl⟩
    · exact ⟨.boolean, by rw [h1.2.2.1, hr]; rfl, by rcases hb with rfl | rfl <;> decide⟩
  obtain ⟨ty, t1, t2⟩ := hrt
  refine pz_Wm (W.zret (Qc := fun _ _ o t => o = .returned (some (.int (Int32.ofInt x))) ∧ t.heap = H) (free := pz_A G.2.2.1 s.heap.size) h1.1 h1.2.1 t1 t2 (fun t ht _ => ⟨rfl, ht⟩) h7.2.2 hd) ?_
  intro t ⟨o, a1, a2, ⟨a3, a4⟩, Lc, ⟨a5, a6, a7⟩, a8⟩
  exact ⟨o, .inl (some (.inl x)), M, a1, a2, hq, ⟨a3, fun y hy => by cases hy; exact k2 _ List.mem_cons_self⟩, ⟨k3, h9⟩, by omega, by omega, a6, by rw [a4]; exact h6, Lc, a8, a7.mono (by omega) (by omega), h7.F a4⟩
theorem z_return (hs : st = []) (hr : pm_ret k = 0) (hd : decode (pm_bytes k) pc = .ok (.return_, 1)) (hq : Q (.inl none) M) : pz_Z G (k, pc, ls, st, M) Q := by
  subst hs
  intro k1 k2 k3 k4 p e R s m args below meth cd H locs cells slots LS tc ts h1 h2 h3 h4 h5 h6 h7 h8 h9
  dsimp only at k1 k2 k3 k4 h1 h2 h3 h4 h5 h6 h7 h8 h9 ⊢
  have hlocks : meth.locks = false := h1.2.2.2.1
  have t1 : meth.sig.returnType = none := by rw [h1.2.2.1, hr]; rfl
  refine pz_Wm (W.vret (Qc := fun _ _ o t => o = .returned none ∧ t.heap = H) (free := pz_A G.2.2.1 s.heap.size) h1.1 h1.2.1 t1 (fun t ht _ => ⟨rfl, ht⟩) h7.2.2 hd) ?_
  intro t ⟨o, a1, a2, ⟨a3, a4⟩, Lc, ⟨a5, a6, a7⟩, a8⟩
  exact ⟨o, .inl none, M, a1, a2, hq, ⟨a3, fun y hy => by cases hy⟩, ⟨k3, h9⟩, by omega, by omega, a6, by rw [a4]; exact h6, Lc, a8, a7.mono (by omega) (by omega), h7.F a4⟩
end PZ5
