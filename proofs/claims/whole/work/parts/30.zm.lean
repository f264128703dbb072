/-! A METHOD'S CONTRACT out of what the pure machine does from its entry -/
def pz_St (G : pz_G) (M : pm_M) (U : State) : Prop := pz_T U ∧ va_K G.2.2.2.2 pz_cl (pz_tys G.2.2.2.1) U ∧ pz_Th G.2.2.1 U U.heap ∧ pz_Nx U ∧ va_P G.2.2.2.2 pz_cl (pz_ws G.2.1 G.2.2.1 G.2.2.2.1 M) U.heap ∧ pz_Xs G U M
def pz_rm (k : Nat) (M : pm_M) : Room := { frames := pm_rank k, cells := pz_b M, slots := 6 * pz_b M, locals := 40 * pm_rank k }
def pz_End (G : pz_G) (s : State) (tc ts : Nat) (Q : pm_P) (o : Outcome) (t : State) : Prop :=
  ∃ (r : pm_A) (M' : pm_M), Q r M' ∧ pz_out G.2.2.1 r o s t ∧ ((∀ a b, pm_R (M' a b)) ∧ pz_Xs G s M') ∧ pz_b M' ≤ tc ∧ 6 * pz_b M' ≤ ts ∧ s.WarmedH t.vm ∧
    va_P G.2.2.2.2 pz_cl (pz_ws G.2.1 G.2.2.1 G.2.2.2.1 M') t.heap ∧
    ∃ Lc : List Loc, (∀ q ∈ Lc, pz_A G.2.2.1 s.heap.size q.base) ∧ s.sameButNew ({ t with vm := s.vm } : State) Lc (tc - pz_b M') (ts - 6 * pz_b M') ∧ va_F (pz_A G.2.2.1 s.heap.size) s t
theorem pz_ychk : ∀ k, k < 95 → (pz_y k).cls = pz_cn (pm_own k) ∧ plainName (pz_y k).cls = true ∧ pm_mL k ≤ 21 := by decide +kernel
theorem pz_cws {k : Nat} {args : Array Value} {s : State} {m : MethodId} (h : (pz_cw k).before args s = true) (hn : s.methodNamed? (pz_y k) = some m) :
    ∃ meth c, s.vm.method? m = some meth ∧ meth.code = some c ∧ c.code = pm_bytes k ∧ c.maxLocals = pm_mL k ∧ meth.sig.returnType = pz_rt (pm_ret k) ∧ meth.locks = false ∧ pz_tab k c ∧ parseMethodDescriptor (pz_y k).desc = some meth.sig := by
  unfold pz_cw at h
  split at h
  · rename_i he
    obtain ⟨meth, c, h1, h2, h3, h4, h5, h6, h7, h8⟩ := Cond.code_spec hn h
    refine ⟨meth, c, h1, h2, h3, h4, h5, h6, ?_, h8⟩
    unfold pz_tab
    have e1 : c.exceptionTable.toList = [] := by
      have := Array.isEmpty_iff.mp h7
      rw [this]
    have e2 : pz_hs k = [] := List.isEmpty_iff.mp he
    rw [e1, e2]
    rfl
  · obtain ⟨m9, meth, c, hn9, h1, h2, h3, h4, h5, h6, h7, h8⟩ := Cond.codeWith_spec h
    cases hn.symm.trans hn9
    exact ⟨meth, c, h1, h2, h3, h4, h6, h7, h5, h8⟩
theorem pz_sl {ad : Nat → Nat} : ∀ (as : List pm_V), (∀ v ∈ as, pm_is1 v = true) → (lg_sl (as.map (pz_v ad))).length = as.length := by
  intro as
  induction as with
  | nil => intro _; rfl
  | cons v as ih =>
    intro h
    have hc := pz_cat (ad := ad) (h v List.mem_cons_self)
    have h2 := ih (fun w hw => h w (List.mem_cons_of_mem _ hw))
    unfold lg_sl at h2 ⊢
    rw [List.map_cons, List.flatMap_cons, List.length_append, h2, hc]
    simp
    omega
theorem pz_args {ad : Nat → Nat} : ∀ (as : List pm_V) (i : Nat), (∀ v ∈ as, pm_is1 v = true) → ∀ (j : Nat) (v : pm_V), as[j]? = some v → (i + j, pz_v ad v) ∈ lv_args i (as.map (pz_v ad)) := by
  intro as
  induction as with
  | nil => intro i _ j v h; cases h
  | cons w as ih =>
    intro i h j v hj
    have hc := pz_cat (ad := ad) (h w List.mem_cons_self)
    rw [List.map_cons]
    unfold lv_args
    rw [if_neg (by rw [hc]; decide)]
    cases j with
    | zero => cases hj; exact List.mem_cons_self
    | succ j =>
      have := ih (i + 1) (fun u hu => h u (List.mem_cons_of_mem _ hu)) j v hj
      rw [show i + (j + 1) = i + 1 + j by omega]
      exact List.mem_cons_of_mem _ this
theorem pz_ent_mem {n : Nat} {as : List pm_V} {v : pm_V} (h : some v ∈ pm_ent n as) : v ∈ as := by
  unfold pm_ent at h
  rcases List.mem_append.mp h with h | h
  · obtain ⟨w, hw, e⟩ := List.mem_map.mp h
    cases e
    exact hw
  · have := List.eq_of_mem_replicate h
    cases this
theorem pz_ent_at {n : Nat} {as : List pm_V} {i : Nat} {v : pm_V} (h : (pm_ent n as)[i]? = some (some v)) : as[i]? = some v := by
  unfold pm_ent at h
  by_cases hi : i < (as.map some).length
  · rw [List.getElem?_append_left hi, List.getElem?_map] at h
    cases hv : as[i]? with
    | none => rw [hv] at h; cases h
    | some w => rw [hv] at h; exact congrArg some (Option.some.inj (Option.some.inj h))
  · rw [List.getElem?_append_right (by omega)] at h
    have := List.eq_of_mem_replicate (List.mem_of_getElem? h)
    cases this
theorem pz_met {G : pz_G} {k : Nat} (hk : k < 95) {as : List pm_V} {M : pm_M} {Q : pm_P} (hz : pz_Z G (k, 0, pm_ent (pm_mL k) as, [], M) Q) (ha : ∀ v ∈ as, pz_rv v ∧ pm_is1 v = true) (hM : ∀ a b, pm_R (M a b)) (hl : as.length ≤ pm_mL k)
    (hL : G.2.1 ≤ 100000) (hinj : pz_inj G.2.2.1) (hst : G.1.stackTraces = false) :
    MetFree G.1 (pz_y k) (headSpec [pz_cw k] (pz_rm k M)) (fun v U => v = (as.map (pz_v G.2.2.1)).toArray ∧ pz_St G M U) (fun _ _ _ _ _ => True) (fun _ s o t => pz_End G s (pz_b M) (6 * pz_b M) Q o t) := by
  obtain ⟨y1, y2, y3⟩ := pz_ychk k hk
  refine MetFree.of_bodyS (code := pm_bytes k) (maxLocals := pm_mL k) (ret := pz_rt (pm_ret k)) y2 ?_ ?_
  · intro args s m h hn
    obtain ⟨meth, c, h1, h2, h3, h4, h5, h6, -, -⟩ := pz_cws (atoms_spec (ws := [pz_cw k]) h _ List.mem_cons_self) hn
    exact ⟨meth, c, h1, h2, h3, h4, h5, h6⟩
  · intro p e s m args below meth c s₁ B hml hP _
    obtain ⟨rfl, hT, hK, hTh, hNx, hPw, hXs⟩ := hP
    have X0 := Stand.of_body B
    obtain ⟨meth', c', g1, g2, -, -, -, -, htab, -⟩ := pz_cws (atoms_spec (ws := [pz_cw k]) B.pre _ List.mem_cons_self) B.named
    cases X0.method.symm.trans g1
    cases X0.code.symm.trans g2
    have hown : s.vm.findClass (pz_cn (pm_own k)) = some m.cls := by rw [← y1]; exact findClass_of_methodNamed B.named
    have hC : pz_C G k p (headSpec [pz_cw k] (pz_rm k M)).room s m meth c := ⟨B.exec, B.bytes, B.returns, B.notSynchronized, hown, hT, hK, hTh, Nat.le_refl _, Nat.le_refl _, hml, htab, hL, hinj, hst, hNx⟩
    have hsl := pz_sl (ad := G.2.2.1) as (fun v hv => (ha v hv).2)
    have hle := lv_entry (as.map (pz_v G.2.2.1)) (n := pm_mL k) (by rw [hsl]; exact hl)
    rw [lg_entry_eq]
    generalize (lg_sl (as.map (pz_v G.2.2.1)) ++ List.replicate (pm_mL k - (lg_sl (as.map (pz_v G.2.2.1))).length) Slot.unset).toArray = LS at hle ⊢
    have hlv : lv_has LS (pm_mL k) (pz_lv G.2.2.1 (pm_ent (pm_mL k) as)) := by
      refine ⟨hle.1, hle.2.1, fun q hq => ?_⟩
      obtain ⟨v, v1, v2⟩ := pz_lv_mem.mp hq
      have := pz_args (ad := G.2.2.1) as 0 (fun v hv => (ha v hv).2) q.1 v (pz_ent_at v1)
      rw [Nat.zero_add, ← v2] at this
      exact hle.2.2 q this
    have hh0 : s₁.heap = s.heap := by rw [B.state]; rfl
    obtain ⟨t, a1, o, r, M', b1, b2, b3⟩ := hz (fun v hv => ha v (pz_ent_mem hv)) (fun v hv => by cases hv) hM (by show (pm_ent (pm_mL k) as).length = pm_mL k; unfold pm_ent; rw [List.length_append, List.length_map, List.length_replicate]; omega)
      p e (headSpec [pz_cw k] (pz_rm k M)).room s m _ below meth c s.heap [] 0 0 LS (pz_b M) (6 * pz_b M) hC (by dsimp only; omega) (Nat.le_refl _) (by dsimp only; omega) (Nat.le_refl _) hPw va_S.rf hlv hXs s₁ hh0 X0
    exact ⟨t, o, a1, b1, b2, r, M', b3⟩
