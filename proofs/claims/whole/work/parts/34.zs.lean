section PZV
variable {G : pz_G} {k pc index : Nat} {ls : pm_L} {st : List pm_V} {M : pm_M} {Q : pm_P}
theorem pz_rvas {as rest : List pm_V} (hst : st = as.reverse ++ rest) (ha1 : as.all pm_is1 = true) (k2 : ∀ v ∈ st, pz_rv v) : (∀ v ∈ as, pz_rv v ∧ pm_is1 v = true) ∧ ∀ v ∈ rest, pz_rv v := by
  subst hst
  exact ⟨fun v hv => ⟨k2 v (List.mem_append_left _ (List.mem_reverse.mpr hv)), List.all_eq_true.mp ha1 v hv⟩, fun v hv => k2 v (List.mem_append_right _ hv)⟩
theorem z_invs (hi : pm_inv G.2.1 (pz_Z G) true index k pc ls st M Q) (hd : decode (pm_bytes k) pc = .ok (.invokestatic index, 3)) : pz_Z G (k, pc, ls, st, M) Q := by
  obtain ⟨k', n, q, as, rest, ⟨hc, hrk⟩, hq, hst, hal, ha1, hrecv, hwt, hz⟩ := hi
  cases q with
  | some ci => cases hq
  | none =>
    intro k1 k2 k3 k4 p e R s m args below meth cd H locs cells slots LS tc ts h1 h2 h3 h4 h5 h6 h7 h8 h9
    dsimp only at k1 k2 k3 k4 h1 h2 h3 h4 h5 h6 h7 h8 h9 ⊢
    obtain ⟨hv1, hv2⟩ := pz_rvas hst ha1 k2
    obtain ⟨c1, c2, c3, c4⟩ := pz_kchk _ hc
    dsimp only at c1 c2 c3 c4
    obtain ⟨hl, hstat⟩ := pz_caT h1.T _ hc
    dsimp only at hl hstat
    intro T hT X
    subst hT
    obtain ⟨hco1, hco2⟩ := pz_coT h1.T k' c1
    have hcwS : (pz_cw k').before args s = true := va_tabs (pz_cwt k') rfl hco1
    have hini : (Cond.initialized (pz_y k').cls).before args s = true := va_tabs rfl rfl (by rw [(pz_ychk k' c1).1]; exact hco2)
    have hstat : (Cond.static (pz_y k')).before args s = true := va_tabs rfl rfl hstat
    obtain ⟨mk, hnamed⟩ : ∃ mk, s.methodNamed? (pz_y k') = some mk := by
      unfold pz_cw at hcwS
      split at hcwS
      · exact Cond.code_named hcwS
      · obtain ⟨m9, _, _, hn9, -⟩ := Cond.codeWith_spec hcwS
        exact ⟨m9, hn9⟩
    obtain ⟨methM, cM, hmethM, -, -, -, -, -, -, hsigM⟩ := pz_cws hcwS hnamed
    have hstatic : methM.isStatic = true := Cond.static_spec hnamed hmethM hstat
    obtain ⟨kP, hkP, -⟩ := className_of_methodNamed hnamed
    have hinitP : kP.init = .initialized := Cond.initialized_spec (findClass_of_methodNamed hnamed) hkP hini
    have hlen : (as.map (pz_v G.2.2.1)).length = methM.sig.parameters.length := by
      rw [hsigM] at c3
      have h9 : methM.sig.parameters.length = n - 0 := Option.some.inj c3
      rw [List.length_map, h9, hal]
      rfl
    have hstack : (F0 m pc LS (st.map (pz_v G.2.2.1))).stack = (as.map (pz_v G.2.2.1)).reverse ++ rest.map (pz_v G.2.2.1) := by
      show st.map (pz_v G.2.2.1) = _
      rw [hst, List.map_append, List.map_reverse]
    have fin : ∀ vm₁, Stand p G.1 e R s m args below meth cd (T.setVm vm₁) locs cells slots → ∃ t2, Steps p.tables e below (doInvoke e ((T.setVm vm₁).setTop (F0 m pc LS (rest.map (pz_v G.2.2.1)))) [] mk (as.map (pz_v G.2.2.1)).toArray).1 t2 ∧ pz_MQ G below s tc ts Q t2 :=
      fun vm₁ X₁ => pz_after (G := G) (k := k) (pc := pc) (ls := ls) (M := M) (Q := Q) (p := p) (e := e) (R := R) (s := s) (m := m) (args := args) (below := below) (meth := meth) (cd := cd) (U := T.setVm vm₁) (locs := locs) (cells := cells) (slots := slots) (LS := LS) (tc := tc) (ts := ts) c1 hrk hz hv1 (by rw [hal]; exact c2) hv2 hwt k1 k3 k4 h1 h2 h3 h4 h5 h6 h7 h8 h9 X₁ hd hnamed
    rcases hl with hl | ⟨host, hl⟩
    · obtain ⟨vm₁, X₁, hstep⟩ := X.invokestatic h1.1 h1.own (va_tabs rfl rfl hl) hnamed hmethM hstatic hkP hinitP c4 (g := F0 m pc LS (st.map (pz_v G.2.2.1))) rfl (argsL := as.map (pz_v G.2.2.1)) (rest := rest.map (pz_v G.2.2.1)) hlen hstack (by rw [h1.2.1]; exact hd)
      obtain ⟨t2, a1, b1⟩ := fin vm₁ X₁
      exact ⟨t2, hstep _ (fun acts => by rw [doInvoke_state]; exact a1), b1⟩
    · obtain ⟨vm₁, X₁, hstep⟩ := X.invokestaticNest h1.1 h1.own (va_tabs rfl rfl hl) hnamed hmethM hstatic hkP hinitP c4 (g := F0 m pc LS (st.map (pz_v G.2.2.1))) rfl (argsL := as.map (pz_v G.2.2.1)) (rest := rest.map (pz_v G.2.2.1)) hlen hstack (by rw [h1.2.1]; exact hd)
      obtain ⟨t2, a1, b1⟩ := fin vm₁ X₁
      exact ⟨t2, hstep _ (fun acts => by rw [doInvoke_state]; exact a1), b1⟩
theorem z_invv (hi : pm_inv G.2.1 (pz_Z G) false index k pc ls st M Q) (hd : decode (pm_bytes k) pc = .ok (.invokevirtual index, 3)) : pz_Z G (k, pc, ls, st, M) Q := by
  obtain ⟨k', n, q, as, rest, ⟨hc, hrk⟩, hq, hst, hal, ha1, hrecv, hwt, hz⟩ := hi
  cases q with
  | none => cases hq
  | some ci =>
    obtain ⟨c, r, fs, rfl, hcell⟩ := hrecv
    intro k1 k2 k3 k4 p e R s m args below meth cd H locs cells slots LS tc ts h1 h2 h3 h4 h5 h6 h7 h8 h9
    dsimp only at k1 k2 k3 k4 h1 h2 h3 h4 h5 h6 h7 h8 h9 ⊢
    obtain ⟨hv1, hv2⟩ := pz_rvas hst ha1 k2
    obtain ⟨c1, c2, c3, c4⟩ := pz_kchk _ hc
    dsimp only at c1 c2 c3 c4
    obtain ⟨hl, hinst, hsel⟩ := pz_caT h1.T _ hc
    dsimp only at hl hinst hsel
    intro T hT X
    subst hT
    obtain ⟨hco1, hco2⟩ := pz_coT h1.T k' c1
    have hcwS : (pz_cw k').before args s = true := va_tabs (pz_cwt k') rfl hco1
    have hinst : (Cond.instanceMethod (pz_y k')).before args s = true := va_tabs rfl rfl hinst
    have hsel : (Cond.selects (pz_cn ci) (pz_y k') (pz_y k')).before args s = true := va_tabs rfl rfl hsel
    obtain ⟨mk, methM, hnamed, hmethM, hstM, habM⟩ := Cond.instanceMethod_spec hinst
    obtain ⟨methM', cM, hmethM', -, -, -, -, -, -, hsigM⟩ := pz_cws hcwS hnamed
    cases hmethM.symm.trans hmethM'
    obtain ⟨hq7, -, -⟩ := pz_cok hcell
    obtain ⟨r7, hr7, cellB, b1, b2, b3, b4⟩ := h6 c _ (pz_at hcell (pz_no hcell))
    obtain ⟨-, hfc, -⟩ := h1.K.1 ci _ hq7
    have hcls : s.vm.findClass (pz_cn ci) = some cellB.cls := by rw [b2]; exact hfc
    obtain ⟨d2, r2, m2, q1, q2, q3, q4, kP, hkP, hkPi⟩ := Cond.selects_spec hsel
    cases hcls.symm.trans q1
    cases (State.methodFound?_of_named hnamed c4).symm.trans q2
    cases hnamed.symm.trans q3
    have hselP : selectMethod e.platform s.vm cellB.cls mk = .method mk := by rw [Launch.admits_selectMethod X.admits]; exact q4
    have hobj : ∀ z, cellB.vm ≠ .statics z := fun z hz => by rw [b3] at hz; cases hz
    have hlen : (r.map (pz_v G.2.2.1)).length = methM.sig.parameters.length := by
      rw [hsigM] at c3
      have h9 : methM.sig.parameters.length = n - 1 := Option.some.inj c3
      rw [List.length_map, h9, ← hal]
      rfl
    have hstack : (F0 m pc LS (st.map (pz_v G.2.2.1))).stack = (r.map (pz_v G.2.2.1)).reverse ++ .ref (G.2.2.1 c) :: rest.map (pz_v G.2.2.1) := by
      show st.map (pz_v G.2.2.1) = _
      rw [hst, List.map_append, List.map_reverse, List.map_cons, List.reverse_cons, List.append_assoc]
      rfl
    have fin : ∀ vm₁, Stand p G.1 e R s m args below meth cd (T.setVm vm₁) locs cells slots → ∃ t2, Steps p.tables e below (doInvoke e ((T.setVm vm₁).setTop (F0 m pc LS (rest.map (pz_v G.2.2.1)))) [] mk (Value.ref (G.2.2.1 c) :: r.map (pz_v G.2.2.1)).toArray).1 t2 ∧ pz_MQ G below s tc ts Q t2 :=
      fun vm₁ X₁ => pz_after (G := G) (k := k) (pc := pc) (ls := ls) (M := M) (Q := Q) (p := p) (e := e) (R := R) (s := s) (m := m) (args := args) (below := below) (meth := meth) (cd := cd) (U := T.setVm vm₁) (locs := locs) (cells := cells) (slots := slots) (LS := LS) (tc := tc) (ts := ts) c1 hrk hz hv1 (by rw [hal]; exact c2) hv2 hwt k1 k3 k4 h1 h2 h3 h4 h5 h6 h7 h8 h9 X₁ hd hnamed
    rcases hl with hl | ⟨host, hl⟩
    · obtain ⟨vm₁, X₁, hstep⟩ := X.invokevirtual h1.1 h1.own (va_tabs rfl rfl hl) hnamed hmethM hstM hkP hkPi c4 (a := G.2.2.1 c) (cell := cellB) b1 hobj hselP hmethM habM hkP hkPi (g := F0 m pc LS (st.map (pz_v G.2.2.1))) rfl (argsL := r.map (pz_v G.2.2.1)) (rest := rest.map (pz_v G.2.2.1)) hlen hstack (by rw [h1.2.1]; exact hd)
      obtain ⟨t2, a1, b1⟩ := fin vm₁ X₁
      exact ⟨t2, hstep _ (fun acts => by rw [doInvoke_state]; exact a1), b1⟩
    · obtain ⟨vm₁, X₁, hstep⟩ := X.invokevirtualNest h1.1 h1.own (va_tabs rfl rfl hl) hnamed hmethM hstM hkP hkPi c4 (a := G.2.2.1 c) (cell := cellB) b1 hobj hselP hmethM habM hkP hkPi (g := F0 m pc LS (st.map (pz_v G.2.2.1))) rfl (argsL := r.map (pz_v G.2.2.1)) (rest := rest.map (pz_v G.2.2.1)) hlen hstack (by rw [h1.2.1]; exact hd)
      obtain ⟨t2, a1, b1⟩ := fin vm₁ X₁
      exact ⟨t2, hstep _ (fun acts => by rw [doInvoke_state]; exact a1), b1⟩
/-- EVERY STEP OF THE PURE MACHINE IS ONE OF THE MACHINE -/
theorem pz_all (G : pz_G) : ∀ (c : pm_C) (Q : pm_P), pm_step G.2.1 (pz_Z G) c Q → pz_Z G c Q := by
  rintro ⟨k, pc, ls, st, M⟩ Q ⟨i, len, hd, hl, h⟩
  dsimp only at hd h
  have lw : (∀ v, some v ∈ ls → pz_rv v) → pz_Z G (k, pc, ls, st, M) Q → pz_Z G (k, pc, ls, st, M) Q := fun _ z => z
  cases i with
  | iconst x => cases hl; exact z_iconst hd h.1 h.2.1 h.2.2
  | bipush x => cases hl; exact z_bipush hd h.1 h.2.1 h.2.2
  | sipush x => cases hl; exact z_sipush hd h.1 h.2.1 h.2.2
  | lconst x => cases hl; exact z_lconst hd h
  | iload_n n => cases hl; obtain ⟨x, h1, h2⟩ := h; exact fun k1 => z_iload_n (fun v hv => (k1 v hv).1) h1 hd h2 k1
  | iload n => cases hl; obtain ⟨x, h1, h2⟩ := h; exact fun k1 => z_iload (fun v hv => (k1 v hv).1) h1 hd h2 k1
  | aload_n n => cases hl; obtain ⟨x, h1, h2⟩ := h; exact z_aload_n h1 hd h2
  | aload n => cases hl; obtain ⟨x, h1, h2⟩ := h; exact z_aload h1 hd h2
  | istore_n n => cases hl; obtain ⟨x, r, h1, h2, h3⟩ := h; exact z_istore_n h1 h2 hd h3
  | istore n => cases hl; obtain ⟨x, r, h1, h2, h3⟩ := h; exact z_istore h1 h2 hd h3
  | iinc n d => cases hl; obtain ⟨x, h1, h2, h3, h4, h5⟩ := h; exact z_iinc h1 h2 h3 h4 hd h5
  | iadd => cases hl; obtain ⟨x, y, r, h1, h2, h3⟩ := h; exact z_iadd h1 h2 hd h3
  | isub => cases hl; obtain ⟨x, y, r, h1, h2, h3⟩ := h; exact z_isub h1 h2 hd h3
  | imul => cases hl; obtain ⟨x, y, r, h1, h2, h3⟩ := h; exact z_imul h1 h2 hd h3
  | iand => cases hl; obtain ⟨x, y, r, h1, h2, h3⟩ := h; exact z_iand h1 h2 hd h3
  | ixor => cases hl; obtain ⟨x, r, h1, h2⟩ := h; exact z_ixor h1 hd h2
  | ishr => cases hl; obtain ⟨x, r, h1, h2⟩ := h; exact z_ishr h1 hd h2
  | i2l => cases hl; obtain ⟨x, r, h1, h2⟩ := h; exact z_i2l h1 hd h2
  | lcmp => cases hl; obtain ⟨x, y, r, h1, h2⟩ := h; exact z_lcmp h1 hd h2
  | getfield n =>
    cases hl
    obtain ⟨ci, j, c, r, fs, f, h1, h2, h3, h4, h5⟩ := h
    cases f with
    | inl q => exact z_getfield h1 h2 h3 h4 hd h5
    | inr b => exact z_getfield h1 h2 h3 h4 hd h5
  | putfield n => cases hl; obtain ⟨ci, j, c, x, r, fs, b, h1, h2, h3, h4, h5, h6⟩ := h; exact z_putfield h1 h2 h3 h4 h5 hd h6
  | iaload => cases hl; obtain ⟨i, c, r, h1, h2, h3⟩ := h; exact z_iaload h1 h2 hd h3
  | baload => cases hl; obtain ⟨i, c, r, h1, h2, h3⟩ := h; exact z_baload h1 h2 hd h3
  | laload => cases hl; obtain ⟨i, c, r, h1, h2, h3⟩ := h; exact z_laload h1 h2 hd h3
  | iastore => cases hl; obtain ⟨x, i, c, r, h1, h2, h3, h4⟩ := h; exact z_iastore h1 h2 h3 hd h4
  | bastore => cases hl; obtain ⟨x, i, c, r, h1, h2, h3, h4⟩ := h; exact z_bastore h1 h2 h3 hd h4
  | lastore => cases hl; obtain ⟨x, i, c, r, h1, h2, h3⟩ := h; exact z_lastore h1 h2 hd h3
  | arraylength => cases hl; obtain ⟨c, r, n, h1, h2, h3, h4⟩ := h; exact z_alen h1 h2 h3 hd h4
  | dup => cases hl; obtain ⟨v, r, h1, h2, h3⟩ := h; exact z_dup h1 h2 hd h3
  | dup_x1 => cases hl; obtain ⟨v, w, r, h1, h2, h3, h4⟩ := h; exact z_dup_x1 h1 h2 h3 hd h4
  | pop => cases hl; obtain ⟨v, r, h1, h2, h3⟩ := h; exact z_pop h1 h2 hd h3
  | ifCond c off => cases hl; obtain ⟨x, r, t, h1, h2, h3, h4⟩ := h; exact z_if h1 h2 hd h3 h4
  | if_icmp c off => cases hl; obtain ⟨x, y, r, t, h1, h2, h3, h4⟩ := h; exact z_icmp h1 h2 hd h3 h4
  | goto off => cases hl; obtain ⟨t, h1, h2⟩ := h; exact z_goto h1 hd h2
  | tableswitch d lo hi offs => obtain ⟨x, r, h1, h2, h3⟩ := h; exact z_switch h1 hd h2 h3
  | invokevirtual n => cases hl; exact z_invv h hd
  | invokestatic n => cases hl; exact z_invs h hd
  | ireturn => cases hl; obtain ⟨x, h1, h2, h3⟩ := h; exact z_ireturn h1 h2 hd h3
  | return_ => cases hl; obtain ⟨h1, h2, h3⟩ := h; exact z_return h1 h2 hd h3
  | new n => cases hl; obtain ⟨kd, sx, ic, h1, h2, h3, h4⟩ := h; exact z_throw hd h1 h2 h3 h4
  | _ => exact h.elim
/-- SOUND: what the pure machine comes to, the machine comes to -/
theorem pz_sound (G : pz_G) {c : pm_C} {Q : pm_P} (h : pm_X G.2.1 c Q) : pz_Z G c Q := h (pz_Z G) (pz_mono G) (pz_all G)
end PZV
