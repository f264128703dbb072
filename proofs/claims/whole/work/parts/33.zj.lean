section PZI
variable {G : pz_G} {k pc : Nat} {ls : pm_L} {M : pm_M} {Q : pm_P}
variable {p : Program} {e : Env} {R : Room} {s : State} {m : MethodId} {args : Array Value} {below : List Frame} {meth : Method} {cd : Code} {U : State} {locs : List Loc} {cells slots : Nat} {LS : Array Slot} {tc ts : Nat}
theorem pz_cwt (k : Nat) : (pz_cw k).onTables = true := by
  unfold pz_cw
  split <;> rfl
/-- behind the linking of a call: to the end of the caller -/
theorem pz_after {k' : Nat} {as rest : List pm_V} (hk' : k' < 95) (hrk : pm_rank k' < pm_rank k) (hz : pz_Z G (k', 0, pm_ent (pm_mL k') as, [], M) (pm_back (pz_Z G) k pc ls rest Q)) (has : ∀ v ∈ as, pz_rv v ∧ pm_is1 v = true) (hal : as.length ≤ pm_mL k') (hrest : ∀ v ∈ rest, pz_rv v) (hwt : pm_wt rest ≤ 8)
    (k1 : ∀ v, some v ∈ ls → pz_rv v ∧ pm_is1 v = true) (k3 : ∀ a b, pm_R (M a b)) (k4 : ls.length = pm_mL k)
    (h1 : pz_C G k p R s m meth cd) (h2 : cells + pz_b M ≤ tc) (h3 : tc ≤ R.cells) (h4 : slots + 6 * pz_b M ≤ ts) (h5 : ts ≤ R.slots)
    (h6 : va_P G.2.2.2.2 pz_cl (pz_ws G.2.1 G.2.2.1 G.2.2.2.1 M) U.heap) (h7 : va_S (pz_A G.2.2.1 s.heap.size) s.heap U.heap locs) (h8 : lv_has LS (pm_mL k) (pz_lv G.2.2.1 ls)) (h9 : pz_Xs G s M)
    (X : Stand p G.1 e R s m args below meth cd U locs cells slots) {ig : Instr} (hdg : decode (pm_bytes k) pc = .ok (ig, 3)) {mk : MethodId} (hn : s.methodNamed? (pz_y k') = some mk) :
    ∃ t2, Steps p.tables e below (doInvoke e (U.setTop (F0 m pc LS (rest.map (pz_v G.2.2.1)))) [] mk (as.map (pz_v G.2.2.1)).toArray).1 t2 ∧ pz_MQ G below s tc ts Q t2 := by
  have hx := h1.1
  have hbt := h1.2.1
  have hlocks : meth.locks = false := h1.2.2.2.1
  have hTh0 : pz_Th G.2.2.1 s s.heap := h1.2.2.2.2.2.2.2.1
  have hfr : pm_rank k ≤ R.frames := h1.2.2.2.2.2.2.2.2.1
  have hlo : 40 * pm_rank k ≤ R.locals := h1.2.2.2.2.2.2.2.2.2.1
  have hml : cd.maxLocals = pm_mL k := h1.2.2.2.2.2.2.2.2.2.2.1
  have htab : pz_tab k cd := h1.2.2.2.2.2.2.2.2.2.2.2.1
  have hst : G.1.stackTraces = false := h1.2.2.2.2.2.2.2.2.2.2.2.2.2.2.1
  have hNx : pz_Nx s := h1.2.2.2.2.2.2.2.2.2.2.2.2.2.2.2
  have hM := pz_met hk' hz has k3 hal h1.L h1.inj hst
  have hTU : pz_T U := pz_T.moved X.warmed h1.T
  obtain ⟨hco1, hco2⟩ := pz_coT hTU k' hk'
  obtain ⟨y1, -, y3⟩ := pz_ychk k' hk'
  have hnU := X.named hn
  have hcwU : ∀ a : Array Value, (pz_cw k').before a U = true := fun a => va_tabs (pz_cwt k') rfl hco1
  obtain ⟨methY, cY, g1, g2, -, g4, -, -, -, -⟩ := pz_cws (hcwU #[]) hnU
  have hkept : ∀ a : Nat, a < s.heap.size → ¬ pz_W G.2.2.1 a → U.heap[a]? = s.heap[a]? := fun a ha hna => h7.2.1 a ha (fun z => z.elim hna (fun z => by omega))
  have hThU : pz_Th G.2.2.1 U U.heap := ⟨(hTh0.1.moved X.warmed.alike).kept hkept, (hTh0.2.moved X.warmed.alike).kept hkept⟩
  have hk35 : U.heap[G.2.2.1 35]? = s.heap[G.2.2.1 35]? := hkept _ h9.2 (pz_w35 h1.inj)
  have hXU : pz_Xs G (U.calling (F0 m pc LS (rest.map (pz_v G.2.2.1))) mk (as.map (pz_v G.2.2.1)).toArray) M := ⟨(h9.1.kept hk35).moved X.warmed.alike, Nat.lt_of_lt_of_le h9.2 h7.1⟩
  have hsum := pz_wtc (ad := G.2.2.1) rest
  have hA : ∀ q, pz_A G.2.2.1 U.heap.size q → pz_A G.2.2.1 s.heap.size q := fun q z => z.elim Or.inl (fun z => Or.inr (Nat.le_trans h7.1 z))
  obtain ⟨o, t, B, L, kk, nn, hsteps, -, ⟨r, M', e1, e2, e3, e4, e5, e6, e7, e8, e9, e10⟩, XB, hBh, hBv, hret, hthr⟩ := pz_run X
    (E := fun o t Lc kk nn => ∃ (r : pm_A) (M' : pm_M), pm_back (pz_Z G) k pc ls rest Q r M' ∧ pz_out G.2.2.1 r o (U.calling (F0 m pc LS (rest.map (pz_v G.2.2.1))) mk (as.map (pz_v G.2.2.1)).toArray) t ∧ ((∀ a b, pm_R (M' a b)) ∧ pz_Xs G (U.calling (F0 m pc LS (rest.map (pz_v G.2.2.1))) mk (as.map (pz_v G.2.2.1)).toArray) M') ∧ pz_b M' ≤ pz_b M ∧
      va_P G.2.2.2.2 pz_cl (pz_ws G.2.1 G.2.2.1 G.2.2.2.1 M') t.heap ∧ (∀ q ∈ Lc, pz_A G.2.2.1 U.heap.size q.base) ∧ va_F (pz_A G.2.2.1 U.heap.size) (U.calling (F0 m pc LS (rest.map (pz_v G.2.2.1))) mk (as.map (pz_v G.2.2.1)).toArray) t ∧ kk = pz_b M - pz_b M' ∧ nn = 6 * pz_b M - 6 * pz_b M' ∧ True)
    hM (g := F0 m pc LS (rest.map (pz_v G.2.2.1))) rfl (by rw [hml]; exact h8.1) (by rw [hbt]; exact hdg) (a := (as.map (pz_v G.2.2.1)).toArray) hnU g1 g2 (va_tabs rfl rfl (by rw [y1]; exact hco2)) (atoms_intro (fun w hw => by rw [List.mem_singleton.mp hw]; exact hcwU _))
    (by show pm_rank k' + 1 ≤ R.frames; omega) (by show 2 * 0 + ((rest.map (pz_v G.2.2.1)).map fun v => v.category).sum + (cY.maxLocals + 11) + 40 * pm_rank k' ≤ R.locals; rw [hsum, g4]; omega) (by show cells + pz_b M ≤ R.cells; omega) (by show slots + 6 * pz_b M ≤ R.slots; omega)
    ⟨rfl, pz_T.same (s := U) rfl hTU, va_K.moved (u := s) X.warmed.alike h1.K, ⟨hThU.1.moved (Vm.Alike.refl _), hThU.2.moved (Vm.Alike.refl _)⟩, fun i j hi hj hij => va_Nc.moved X.warmed.alike (hNx i j hi hj hij), h6, hXU⟩
    (fun o t ⟨r, M', q1, q2, q3, q4, q5, q6, q7, Lc, q8, q9, q10⟩ => ⟨Lc, _, _, q6, q9, r, M', q1, q2, q3, q4, q7, q8, q10, rfl, rfl, trivial⟩)
  have hXs : pz_Xs G s M' := ⟨(e3.2.1.kept hk35.symm).moved X.warmed.alike.symm, h9.2⟩
  have hcells : cells + kk + pz_b M' ≤ tc := by omega
  have hslots : slots + nn + 6 * pz_b M' ≤ ts := by omega
  have hSB : va_S (pz_A G.2.2.1 s.heap.size) s.heap B.heap (locs ++ L) := by
    refine ⟨by rw [hBh]; exact Nat.le_trans h7.1 e7.1, fun q hq hnq => ?_, fun q hq => ?_⟩
    · rw [hBh]
      have := e7.2 q (Nat.lt_of_lt_of_le hq h7.1) (fun z => hnq (hA q z))
      exact this.trans (h7.2.1 q hq hnq)
    · rcases List.mem_append.mp hq with z | z
      · exact h7.2.2 q z
      · exact hA _ (e6 q z)
  have hPB : va_P G.2.2.2.2 pz_cl (pz_ws G.2.1 G.2.2.1 G.2.2.2.1 M') B.heap := by rw [hBh]; exact e5
  cases r with
  | inl v =>
    obtain ⟨o1, o2⟩ := e2
    have ht := hret _ o1
    have hzz : pz_Z G (k, pc + 3, ls, v.toList ++ rest, M') Q := e1
    obtain ⟨t2, a1, b1⟩ := hzz k1 (fun w hw => by
      rcases List.mem_append.mp hw with z | z
      · cases v with
        | none => cases z
        | some x => rw [List.mem_singleton.mp z]; exact o2 x rfl
      · exact hrest w z) e3.1 k4 p e R s m args below meth cd B.heap (locs ++ L) (cells + kk) (slots + nn) LS tc ts h1 hcells h3 hslots h5 hPB hSB h8 hXs B rfl XB
    refine ⟨t2, hsteps.trans ?_, b1⟩
    rw [ht]
    have e11 : (v.map (pz_v G.2.2.1)).toList ++ rest.map (pz_v G.2.2.1) = (v.toList ++ rest).map (pz_v G.2.2.1) := by cases v <;> rfl
    show Steps p.tables e below (B.setTop (F0 m (pc + 3) LS ((v.map (pz_v G.2.2.1)).toList ++ rest.map (pz_v G.2.2.1)))) t2
    rw [e11]
    exact a1
  | inr kd =>
    obtain ⟨x, cell, o1, o2, o3, o4⟩ := e2
    have ht := hthr _ o1
    have hcls : s.vm.findClass (pz_xn kd) = some cell.cls := (X.warmed.alike.findClass ..).symm.trans o4
    have e1 : (match pm_hnd.lookup (k, pc, kd) with | none => k < 86 ∧ Q (.inr kd) M' | some h => pz_Z G (k, h.2.1, ls.set h.2.2 none, [], M') Q) := e1
    cases hlk : pm_hnd.lookup (k, pc, kd) with
    | none =>
      rw [hlk] at e1
      obtain ⟨hk86, hQ⟩ := e1
      have hno : cd.exceptionTable.toList = [] := by
        unfold pz_tab at htab
        rw [pz_hs0 k hk86] at htab
        exact List.map_eq_nil_iff.mp htab
      obtain ⟨l1, l2, l3, l4, l5⟩ := XB.leaveThrown x (g := F0 m pc LS (rest.map (pz_v G.2.2.1))) rfl rfl rfl (by rw [hno]; exact fun y z => by cases z) hlocks
      refine ⟨_, hsteps.trans (by rw [ht]; exact l1), .threw x, .inr kd, M', l2, l3, hQ, ⟨x, cell, rfl, by show B.heap[x]? = _; rw [hBh]; exact o2, o3, hcls⟩, ⟨e3.1, hXs⟩, by omega, by omega, l4, hPB, locs ++ L, hSB.2.2, l5.mono (by omega) (by omega), ⟨hSB.1, hSB.2.1⟩⟩
    | some hq =>
      rw [hlk] at e1
      have hmem := pz_look _ hlk
      have hchk := pz_hchk0 _ hmem
      unfold pz_hchk at hchk
      simp only [Bool.and_eq_true, decide_eq_true_eq, List.all_eq_true, Bool.or_eq_true] at hchk
      obtain ⟨⟨⟨⟨c1, c2⟩, c3⟩, c4⟩, c5⟩ := hchk
      have hown0 := h1.own
      rw [c1] at hown0
      have hpl : e.platform.magicAccessors = ({} : Platform).magicAccessors := by rw [X.admits.platform]
      have hcell : ((B.setTop (F0 m pc LS (rest.map (pz_v G.2.2.1)))).pushFrame (.throwing x)).heap[x]? = some cell := by rw [Stand.throwing_heap, hBh]; exact o2
      have hvmS : s.WarmedH ((B.setTop (F0 m pc LS (rest.map (pz_v G.2.2.1)))).pushFrame (.throwing x)).vm := by rw [Stand.throwing_vm]; exact XB.warmed
      have hes : ∀ y ∈ cd.exceptionTable.toList, covers y pc = true ∧ ∃ j, j < 3 ∧ y.catchType = pz_ct j := by
        intro y hy
        have hy2 : (y.startPc, y.endPc, y.handlerPc, y.catchType) ∈ pz_hs k := by
          rw [← htab]
          exact List.mem_map.mpr ⟨y, hy, rfl⟩
        obtain ⟨⟨z1, z2⟩, z3⟩ := c3 _ hy2
        refine ⟨by simp only [covers]; rw [Bool.and_eq_true, decide_eq_true_eq, decide_eq_true_eq]; exact ⟨z1, z2⟩, ?_⟩
        rcases z3 with (z3 | z3) | z3
        · exact ⟨0, by omega, z3⟩
        · exact ⟨1, by omega, z3⟩
        · exact ⟨2, by omega, z3⟩
      have hfn : pz_fnd (cd.exceptionTable.toList.map (fun h => (h.handlerPc, h.catchType))) (pz_ct kd) = some hq.1 := by
        rw [← c4]
        unfold pz_tab at htab
        rw [← htab, List.map_map]
        rfl
      obtain ⟨vm', hw', hgo⟩ := pz_go (e := e) (f := F0 m pc LS (rest.map (pz_v G.2.2.1))) (a := x) h1.T hNx hown0 hpl c2 hcls o3 cd.exceptionTable.toList _ hvmS hcell hes hfn
      have hfind : ∀ (Q : Handler → Pre) (E : CtlPost) (d : Bool) (acts : List Action), wp (findHandler (F0 m pc LS (rest.map (pz_v G.2.2.1))) x) Q E e d acts ((B.setTop (F0 m pc LS (rest.map (pz_v G.2.2.1)))).pushFrame (.throwing x)) ↔ Q (.found hq.1) d acts (((B.setTop (F0 m pc LS (rest.map (pz_v G.2.2.1)))).pushFrame (.throwing x)).setVm vm') := by
        intro Q E d acts
        rw [W.findHandler_eq (meth := meth) (code := cd) (by rw [Stand.throwing_vm]; exact XB.method') XB.code]
        exact hgo Q E d acts
      have hW2 : W p G.1 e R s m args below meth cd B.heap (locs ++ L) (cells + kk) (slots + nn) (pz_MQ G below s tc ts Q) (F0 m hq.1 LS [.ref x]) := by
        have fin : ∀ LS' : Array Slot, lv_has LS' (pm_mL k) ((hq.2.2, Value.ref x) :: (pz_lv G.2.2.1 ls).filter (fun q => !(q.1 == hq.2.2) && !(q.1 + 1 == hq.2.2 && q.2.category == 2))) → W p G.1 e R s m args below meth cd B.heap (locs ++ L) (cells + kk) (slots + nn) (pz_MQ G below s tc ts Q) (F0 m hq.2.1 LS' []) := by
          intro LS' h90
          exact e1 (pz_okset k1 (fun v hv => by cases hv)) (fun v hv => by cases hv) e3.1 (by show (ls.set hq.2.2 none).length = _; rw [List.length_set]; exact k4) p e R s m args below meth cd B.heap (locs ++ L) (cells + kk) (slots + nn) LS' tc ts h1 hcells h3 hslots h5 hPB hSB
            (pz_store k1 (fun v hv => by cases hv) h90) hXs
        rcases pz_hdec _ hmem with ⟨n4, n1, n2, n3⟩ | ⟨n2, n3⟩
        · dsimp only at n1 n2 n3
          rw [n3] at fin
          exact lv_astore_n hx hbt n2 n1 h8 c5 rfl fin
        · dsimp only at n2 n3
          rw [n3] at fin
          exact lv_astore hx hbt n2 h8 c5 rfl fin
      obtain ⟨t2, a1, b1⟩ := hW2 (B.setVm vm') rfl (XB.noted hw')
      refine ⟨t2, hsteps.trans ?_, b1⟩
      rw [ht]
      exact pz_caught XB.here hfind a1
end PZI
