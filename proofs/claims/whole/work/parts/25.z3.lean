section PZ3
variable {G : pz_G} {k pc len : Nat} {ls : pm_L} {st : List pm_V} {M : pm_M} {Q : pm_P}
theorem pz_C.K {p : Program} {R : Room} {s : State} {m : MethodId} {meth : Method} {cd : Code} (h : pz_C G k p R s m meth cd) : va_K G.2.2.2.2 pz_cl (pz_tys G.2.2.2.1) s := h.2.2.2.2.2.2.1
theorem pz_C.T {p : Program} {R : Room} {s : State} {m : MethodId} {meth : Method} {cd : Code} (h : pz_C G k p R s m meth cd) : pz_T s := h.2.2.2.2.2.1
theorem pz_C.own {p : Program} {R : Room} {s : State} {m : MethodId} {meth : Method} {cd : Code} (h : pz_C G k p R s m meth cd) : s.vm.findClass (pz_cn (pm_own k)) = some m.cls := h.2.2.2.2.1
theorem pz_C.L {p : Program} {R : Room} {s : State} {m : MethodId} {meth : Method} {cd : Code} (h : pz_C G k p R s m meth cd) : G.2.1 ≤ 100000 := h.2.2.2.2.2.2.2.2.2.2.2.2.1
theorem pz_C.inj {p : Program} {R : Room} {s : State} {m : MethodId} {meth : Method} {cd : Code} (h : pz_C G k p R s m meth cd) : pz_inj G.2.2.1 := h.2.2.2.2.2.2.2.2.2.2.2.2.2.1
theorem z_iaload {i : Int} {c : Nat} {r : List pm_V} (hs : st = .inl i :: .inr (.inl c) :: r) (ha : pm_arr (pm_cells G.2.1) c 0 i) (hd : decode (pm_bytes k) pc = .ok (.iaload, 1)) (h : pz_Z G (k, pc + 1, ls, .inl (M c i) :: r, M) Q) : pz_Z G (k, pc, ls, st, M) Q := by
  subst hs
  intro k1 k2 k3 k4 p e R s m args below meth cd H locs cells slots LS tc ts h1 h2 h3 h4 h5 h6 h7 h8 h9
  dsimp only at k1 k2 k3 k4 h1 h2 h3 h4 h5 h6 h7 h8 h9 ⊢
  obtain ⟨n, hc, hi⟩ := ha
  have hn := pz_len h1.L hc
  have e1 : M c (((Int32.ofInt i).toNatClampNeg : Nat) : Int) = M c i := by rw [pz_clamp (by unfold pm_R; omega) hi.1, Int.toNat_of_nonneg hi.1]
  have go : W p G.1 e R s m args below meth cd H locs cells slots (pz_MQ G below s tc ts Q) (F0 m (pc + 1) LS (.int (Int32.ofInt (M c (((Int32.ofInt i).toNatClampNeg : Nat) : Int))) :: r.map (pz_v G.2.2.1))) := by
    rw [e1]
    exact h k1 (fun w hw => by rcases List.mem_cons.mp hw with rfl | hw; exact k3 _ _; exact k2 w (List.mem_cons_of_mem _ (List.mem_cons_of_mem _ hw))) k3 k4 p e R s m args below meth cd H locs cells slots LS tc ts h1 h2 h3 h4 h5 h6 h7 h8 h9
  by_cases h35 : c = 35
  · subst h35
    have en : n = G.2.1 := by
      cases (g_35 (L := G.2.1)).symm.trans hc
      rfl
    subst en
    exact va_sld h1.1 h1.2.1 h9.1 h9.2 (pz_b35 h1.inj h9.2) h7 (pz_in hi hn) hd go
  · exact va_iald h1.1 h1.2.1 h1.K h6 c 0 (cA := G.2.2.2.1 0) (n := n) (f := fun j => Int32.ofInt (M c j)) (pz_at hc h35) rfl (pz_in hi hn) hd go
theorem z_baload {i : Int} {c : Nat} {r : List pm_V} (hs : st = .inl i :: .inr (.inl c) :: r) (ha : pm_arr (pm_cells G.2.1) c 1 i) (hd : decode (pm_bytes k) pc = .ok (.baload, 1)) (h : pz_Z G (k, pc + 1, ls, .inl (M c i) :: r, M) Q) : pz_Z G (k, pc, ls, st, M) Q := by
  subst hs
  intro k1 k2 k3 k4 p e R s m args below meth cd H locs cells slots LS tc ts h1 h2 h3 h4 h5 h6 h7 h8 h9
  dsimp only at k1 k2 k3 k4 h1 h2 h3 h4 h5 h6 h7 h8 h9 ⊢
  obtain ⟨n, hc, hi⟩ := ha
  have hn := pz_len h1.L hc
  refine va_zald h1.1 h1.2.1 h1.K h6 c 1 (cA := G.2.2.2.1 1) (n := n) (f := fun j => Int32.ofInt (M c j)) (pz_at hc (pz_nk hc (by decide))) rfl (pz_in hi hn) hd ?_
  have e1 : M c (((Int32.ofInt i).toNatClampNeg : Nat) : Int) = M c i := by rw [pz_clamp (by unfold pm_R; omega) hi.1, Int.toNat_of_nonneg hi.1]
  rw [e1]
  exact h k1 (fun w hw => by rcases List.mem_cons.mp hw with rfl | hw; exact k3 _ _; exact k2 w (List.mem_cons_of_mem _ (List.mem_cons_of_mem _ hw))) k3 k4 p e R s m args below meth cd H locs cells slots LS tc ts h1 h2 h3 h4 h5 h6 h7 h8 h9
theorem z_laload {i : Int} {c : Nat} {r : List pm_V} (hs : st = .inl i :: .inr (.inl c) :: r) (ha : pm_arr (pm_cells G.2.1) c 2 i) (hd : decode (pm_bytes k) pc = .ok (.laload, 1)) (h : pz_Z G (k, pc + 1, ls, .inr (.inr (M c i)) :: r, M) Q) : pz_Z G (k, pc, ls, st, M) Q := by
  subst hs
  intro k1 k2 k3 k4 p e R s m args below meth cd H locs cells slots LS tc ts h1 h2 h3 h4 h5 h6 h7 h8 h9
  dsimp only at k1 k2 k3 k4 h1 h2 h3 h4 h5 h6 h7 h8 h9 ⊢
  obtain ⟨n, hc, hi⟩ := ha
  have hn := pz_len h1.L hc
  refine va_lald h1.1 h1.2.1 h1.K h6 c 2 (cA := G.2.2.2.1 2) (n := n) (f := fun j => Int64.ofInt (M c j)) (pz_at hc (pz_nk hc (by decide))) rfl (pz_in hi hn) hd ?_
  have e1 : M c (((Int32.ofInt i).toNatClampNeg : Nat) : Int) = M c i := by rw [pz_clamp (by unfold pm_R; omega) hi.1, Int.toNat_of_nonneg hi.1]
  rw [e1]
  exact h k1 (fun w hw => by rcases List.mem_cons.mp hw with rfl | hw; exact k3 _ _; exact k2 w (List.mem_cons_of_mem _ (List.mem_cons_of_mem _ hw))) k3 k4 p e R s m args below meth cd H locs cells slots LS tc ts h1 h2 h3 h4 h5 h6 h7 h8 h9
theorem z_iastore {x i : Int} {c : Nat} {r : List pm_V} (hs : st = .inl x :: .inl i :: .inr (.inl c) :: r) (ha : pm_arr (pm_cells G.2.1) c 0 i) (h35 : c ≠ 35) (hd : decode (pm_bytes k) pc = .ok (.iastore, 1)) (h : pz_Z G (k, pc + 1, ls, r, pm_set M c i x) Q) : pz_Z G (k, pc, ls, st, M) Q := by
  subst hs
  intro k1 k2 k3 k4 p e R s m args below meth cd H locs cells slots LS tc ts h1 h2 h3 h4 h5 h6 h7 h8 h9
  dsimp only at k1 k2 k3 k4 h1 h2 h3 h4 h5 h6 h7 h8 h9 ⊢
  obtain ⟨n, hc, hi⟩ := ha
  have hn := pz_len h1.L hc
  have hx : pm_R x := k2 (.inl x) List.mem_cons_self
  refine va_iast h1.1 h1.2.1 h1.K h6 (pz_D h1.inj s.heap.size) h7 c 0 (cA := G.2.2.2.1 0) (n := n) (f := fun j => Int32.ofInt (M c j)) (pz_at hc h35) rfl (pz_in hi hn) hd (fun H1 locs1 hP hD hS => ?_)
  rw [pz_arr32 (by unfold pm_R; omega) hi.1] at hP
  have hP : va_P G.2.2.2.2 pz_cl ((pz_ws G.2.1 G.2.2.1 G.2.2.2.1 M).set c (G.2.2.1 c, pz_e G.2.2.1 G.2.2.2.1 (pm_set M c i x) c (.inl (0, n)))) H1 := hP
  rw [pz_set pm_set_off hc h35] at hP
  have hb := pz_b_set (M := M) (j := i) (x := x) (pz_lt hc)
  exact h k1 (fun w hw => k2 w (List.mem_cons_of_mem _ (List.mem_cons_of_mem _ (List.mem_cons_of_mem _ hw)))) (pm_R_set k3 hx) k4 p e R s m args below meth cd H1 locs1 cells slots LS tc ts h1 (by rw [hb]; exact h2) h3 (by rw [hb]; exact h4) h5 hP hS h8 (h9.set h35)
theorem pz_narz {x : Int} (h : pm_bit x) : vp_nar .boolean (Int32.ofInt x) = Int32.ofInt x := by
  rcases h with rfl | rfl
  · decide
  · decide
theorem z_bastore {x i : Int} {c : Nat} {r : List pm_V} (hs : st = .inl x :: .inl i :: .inr (.inl c) :: r) (ha : pm_arr (pm_cells G.2.1) c 1 i) (hb0 : pm_bit x) (hd : decode (pm_bytes k) pc = .ok (.bastore, 1)) (h : pz_Z G (k, pc + 1, ls, r, pm_set M c i x) Q) : pz_Z G (k, pc, ls, st, M) Q := by
  subst hs
  intro k1 k2 k3 k4 p e R s m args below meth cd H locs cells slots LS tc ts h1 h2 h3 h4 h5 h6 h7 h8 h9
  dsimp only at k1 k2 k3 k4 h1 h2 h3 h4 h5 h6 h7 h8 h9 ⊢
  obtain ⟨n, hc, hi⟩ := ha
  have hn := pz_len h1.L hc
  have hx : pm_R x := k2 (.inl x) List.mem_cons_self
  refine va_zast h1.1 h1.2.1 h1.K h6 (pz_D h1.inj s.heap.size) h7 c 1 (cA := G.2.2.2.1 1) (n := n) (f := fun j => Int32.ofInt (M c j)) (pz_at hc (pz_nk hc (by decide))) rfl (pz_in hi hn) hd (fun H1 locs1 hP hD hS => ?_)
  rw [pz_narz hb0, pz_arr32 (by unfold pm_R; omega) hi.1] at hP
  have hP : va_P G.2.2.2.2 pz_cl ((pz_ws G.2.1 G.2.2.1 G.2.2.2.1 M).set c (G.2.2.1 c, pz_e G.2.2.1 G.2.2.2.1 (pm_set M c i x) c (.inl (1, n)))) H1 := hP
  rw [pz_set pm_set_off hc (pz_nk hc (by decide))] at hP
  have hb := pz_b_set (M := M) (j := i) (x := x) (pz_lt hc)
  exact h k1 (fun w hw => k2 w (List.mem_cons_of_mem _ (List.mem_cons_of_mem _ (List.mem_cons_of_mem _ hw)))) (pm_R_set k3 hx) k4 p e R s m args below meth cd H1 locs1 cells slots LS tc ts h1 (by rw [hb]; exact h2) h3 (by rw [hb]; exact h4) h5 hP hS h8 (h9.set (pz_nk hc (by decide)))
theorem z_lastore {x i : Int} {c : Nat} {r : List pm_V} (hs : st = .inr (.inr x) :: .inl i :: .inr (.inl c) :: r) (ha : pm_arr (pm_cells G.2.1) c 2 i) (hd : decode (pm_bytes k) pc = .ok (.lastore, 1)) (h : pz_Z G (k, pc + 1, ls, r, pm_set M c i x) Q) : pz_Z G (k, pc, ls, st, M) Q := by
  subst hs
  intro k1 k2 k3 k4 p e R s m args below meth cd H locs cells slots LS tc ts h1 h2 h3 h4 h5 h6 h7 h8 h9
  dsimp only at k1 k2 k3 k4 h1 h2 h3 h4 h5 h6 h7 h8 h9 ⊢
  obtain ⟨n, hc, hi⟩ := ha
  have hn := pz_len h1.L hc
  have hx : pm_R x := k2 (.inr (.inr x)) List.mem_cons_self
  refine va_last h1.1 h1.2.1 h1.K h6 (pz_D h1.inj s.heap.size) h7 c 2 (cA := G.2.2.2.1 2) (n := n) (f := fun j => Int64.ofInt (M c j)) (pz_at hc (pz_nk hc (by decide))) rfl (pz_in hi hn) hd (fun H1 locs1 hP hD hS => ?_)
  rw [pz_arr64 (by unfold pm_R; omega) hi.1] at hP
  have hP : va_P G.2.2.2.2 pz_cl ((pz_ws G.2.1 G.2.2.1 G.2.2.2.1 M).set c (G.2.2.1 c, pz_e G.2.2.1 G.2.2.2.1 (pm_set M c i x) c (.inl (2, n)))) H1 := hP
  rw [pz_set pm_set_off hc (pz_nk hc (by decide))] at hP
  have hb := pz_b_set (M := M) (j := i) (x := x) (pz_lt hc)
  exact h k1 (fun w hw => k2 w (List.mem_cons_of_mem _ (List.mem_cons_of_mem _ (List.mem_cons_of_mem _ hw)))) (pm_R_set k3 hx) k4 p e R s m args below meth cd H1 locs1 cells slots LS tc ts h1 (by rw [hb]; exact h2) h3 (by rw [hb]; exact h4) h5 hP hS h8 (h9.set (pz_nk hc (by decide)))
theorem z_alen {c n : Nat} {r : List pm_V} (hs : st = .inr (.inl c) :: r) (hc : (pm_cells G.2.1)[c]? = some (.inl (0, n))) (hn : n ≤ 100000) (hd : decode (pm_bytes k) pc = .ok (.arraylength, 1)) (h : pz_Z G (k, pc + 1, ls, .inl n :: r, M) Q) : pz_Z G (k, pc, ls, st, M) Q := by
  subst hs
  intro k1 k2 k3 k4 p e R s m args below meth cd H locs cells slots LS tc ts h1 h2 h3 h4 h5 h6 h7 h8 h9
  dsimp only at k1 k2 k3 k4 h1 h2 h3 h4 h5 h6 h7 h8 h9 ⊢
  have go : W p G.1 e R s m args below meth cd H locs cells slots (pz_MQ G below s tc ts Q) (F0 m (pc + 1) LS (.int (Int32.ofInt n) :: r.map (pz_v G.2.2.1))) :=
    h k1 (fun w hw => by rcases List.mem_cons.mp hw with rfl | hw; (show pm_R n; unfold pm_R; omega); exact k2 w (List.mem_cons_of_mem _ hw)) k3 k4 p e R s m args below meth cd H locs cells slots LS tc ts h1 h2 h3 h4 h5 h6 h7 h8 h9
  by_cases h35 : c = 35
  · subst h35
    have en : n = G.2.1 := by
      cases (g_35 (L := G.2.1)).symm.trans hc
      rfl
    subst en
    rw [Int32.ofInt_eq_ofNat] at go
    exact va_slen h1.1 h1.2.1 h9.1 h9.2 (pz_b35 h1.inj h9.2) h7 hd go
  · exact va_alen h1.1 h1.2.1 h1.K h6 c 0 (cA := G.2.2.2.1 0) (x := (n, .inl fun j => Int32.ofInt (M c j))) (pz_at hc h35) (ty := .int) rfl (v := Int32.ofInt n) (Int32.ofInt_eq_ofNat (n := n)).symm hd go
/-- fields -/
theorem z_getfield {index ci j c : Nat} {r : List pm_V} {fs : List (Nat ⊕ Bool)} {f : Nat ⊕ Bool} (hf : (pm_own k, index, ci, j) ∈ pm_fld) (hs : st = .inr (.inl c) :: r) (hc : (pm_cells G.2.1)[c]? = some (.inr (ci, fs))) (hj : fs[j]? = some f)
    (hd : decode (pm_bytes k) pc = .ok (.getfield index, 3)) (h : pz_Z G (k, pc + 3, ls, (match f with | .inl q => .inr (.inl q) | .inr _ => .inl (M c j)) :: r, M) Q) : pz_Z G (k, pc, ls, st, M) Q := by
  subst hs
  intro k1 k2 k3 k4 p e R s m args below meth cd H locs cells slots LS tc ts h1 h2 h3 h4 h5 h6 h7 h8 h9
  dsimp only at k1 k2 k3 k4 h1 h2 h3 h4 h5 h6 h7 h8 h9 ⊢
  obtain ⟨hq, hN, -⟩ := pz_cok hc
  have hjl : j < pz_nf ci := by rw [hN]; exact (List.getElem?_eq_some_iff.mp hj).1
  have hv : (fs.mapIdx (pz_f G.2.2.1 M c))[j]? = some (pz_f G.2.2.1 M c j f) := by rw [List.getElem?_mapIdx, hj]; rfl
  have kk : W p G.1 e R s m args below meth cd H locs cells slots (pz_MQ G below s tc ts Q) (F0 m (pc + 3) LS (pz_f G.2.2.1 M c j f :: r.map (pz_v G.2.2.1))) := by
    have := h k1 (fun w hw => by
      rcases List.mem_cons.mp hw with rfl | hw
      · cases f with
        | inl q => exact trivial
        | inr b => exact k3 _ _
      · exact k2 w (List.mem_cons_of_mem _ hw)) k3 k4 p e R s m args below meth cd H locs cells slots LS tc ts h1 h2 h3 h4 h5 h6 h7 h8 h9
    cases f with
    | inl q => exact this
    | inr b => exact this
  rcases pz_flT h1.T _ hf with hl | ⟨host, hl⟩
  · exact va_get (own := pz_cn (pm_own k)) (ref := pz_cn ci) (C := pz_cn ci) (T := pz_u ci) (N := pz_nf ci) h1.1 h1.2.1 (pz_lays h1.T ci hq args) (fun w hw => hw) h1.own h1.K h6 c (pz_at hc (pz_no hc)) hq j hjl (va_tabs rfl rfl hl) (fun x hx => hx) hv hd kk
  · exact va_getN (own := pz_cn (pm_own k)) (ref := pz_cn ci) (C := pz_cn ci) (T := pz_u ci) (N := pz_nf ci) (host := host) h1.1 h1.2.1 (pz_lays h1.T ci hq args) (fun w hw => hw) h1.own h1.K h6 c (pz_at hc (pz_no hc)) hq j hjl (va_tabs rfl rfl hl) (fun x hx => hx) hv hd kk
theorem pz_mapset {ad : Nat → Nat} {M : pm_M} {c j : Nat} {x : Int} {fs : List (Nat ⊕ Bool)} {b : Bool} (hj : fs[j]? = some (.inr b)) : (fs.mapIdx (pz_f ad M c)).set j (.int (Int32.ofInt x)) = fs.mapIdx (pz_f ad (pm_set M c j x) c) := by
  apply List.ext_getElem?
  intro i
  rw [List.getElem?_set, List.length_mapIdx, List.getElem?_mapIdx, List.getElem?_mapIdx]
  by_cases hi : j = i
  · subst hi
    rw [if_pos rfl, if_pos (List.getElem?_eq_some_iff.mp hj).1, hj]
    show some (Value.int _) = some (Value.int _)
    rw [pm_get_e]
  · rw [if_neg hi]
    cases fs[i]? with
    | none => rfl
    | some f =>
      show some _ = some _
      congr 1
      cases f with
      | inl q => rfl
      | inr b =>
        show Value.int _ = Value.int _
        rw [pm_get_j (by omega) rfl]
theorem z_putfield {index ci j c : Nat} {x : Int} {r : List pm_V} {fs : List (Nat ⊕ Bool)} {b : Bool} (hf : (pm_own k, index, ci, j) ∈ pm_fld) (hs : st = .inl x :: .inr (.inl c) :: r) (hc : (pm_cells G.2.1)[c]? = some (.inr (ci, fs))) (hj : fs[j]? = some (.inr b)) (hbit : b = true → pm_bit x)
    (hd : decode (pm_bytes k) pc = .ok (.putfield index, 3)) (h : pz_Z G (k, pc + 3, ls, r, pm_set M c j x) Q) : pz_Z G (k, pc, ls, st, M) Q := by
  subst hs
  intro k1 k2 k3 k4 p e R s m args below meth cd H locs cells slots LS tc ts h1 h2 h3 h4 h5 h6 h7 h8 h9
  dsimp only at k1 k2 k3 k4 h1 h2 h3 h4 h5 h6 h7 h8 h9 ⊢
  obtain ⟨hq, hN, hty⟩ := pz_cok hc
  have hlt := (List.getElem?_eq_some_iff.mp hj).1
  have hjl : j < pz_nf ci := by rw [hN]; exact hlt
  have hx : pm_R x := k2 (.inl x) List.mem_cons_self
  have hbs := pz_b_set (M := M) (j := j) (x := x) (pz_lt hc)
  obtain ⟨hfin, hpt⟩ := hty j b hj
  have hnar : narrow (if b then .boolean else .int) (Value.int (Int32.ofInt x)) = .int (Int32.ofInt x) := by
    cases b with
    | false => rfl
    | true => rcases hbit rfl with rfl | rfl <;> decide
  have hfit : fits (if b then .boolean else .int) (Value.int (Int32.ofInt x)) = true := by
    cases b with
    | false => rfl
    | true => rcases hbit rfl with rfl | rfl <;> decide
  have kk : ∀ (H1 : Heap) (locs1 : List Loc), va_P G.2.2.2.2 pz_cl ((pz_ws G.2.1 G.2.2.1 G.2.2.2.1 M).set c (G.2.2.1 c, .inr (ci, (fs.mapIdx (pz_f G.2.2.1 M c)).set j (.int (Int32.ofInt x))))) H1 → va_D (pz_A G.2.2.1 s.heap.size) ((pz_ws G.2.1 G.2.2.1 G.2.2.2.1 M).set c (G.2.2.1 c, .inr (ci, (fs.mapIdx (pz_f G.2.2.1 M c)).set j (.int (Int32.ofInt x))))) → va_S (pz_A G.2.2.1 s.heap.size) s.heap H1 locs1 →
      W p G.1 e R s m args below meth cd H1 locs1 cells slots (pz_MQ G below s tc ts Q) (F0 m (pc + 3) LS (r.map (pz_v G.2.2.1))) := by
    intro H1 locs1 hP hD hS
    rw [pz_mapset hj] at hP
    have hP : va_P G.2.2.2.2 pz_cl ((pz_ws G.2.1 G.2.2.1 G.2.2.2.1 M).set c (G.2.2.1 c, pz_e G.2.2.1 G.2.2.2.1 (pm_set M c j x) c (.inr (ci, fs)))) H1 := hP
    rw [pz_set pm_set_off hc (pz_no hc)] at hP
    exact h k1 (fun w hw => k2 w (List.mem_cons_of_mem _ (List.mem_cons_of_mem _ hw))) (pm_R_set k3 hx) k4 p e R s m args below meth cd H1 locs1 cells slots LS tc ts h1 (by rw [hbs]; exact h2) h3 (by rw [hbs]; exact h4) h5 hP hS h8 (h9.set (pz_no hc))
  have hll : j < (fs.mapIdx (pz_f G.2.2.1 M c)).length := by rw [List.length_mapIdx]; exact hlt
  rcases pz_flT h1.T _ hf with hl | ⟨host, hl⟩
  · exact va_put (own := pz_cn (pm_own k)) (ref := pz_cn ci) (C := pz_cn ci) (T := pz_u ci) (N := pz_nf ci) h1.1 h1.2.1 (pz_lays h1.T ci hq args) (fun w hw => hw) (pz_ft ci) (pz_ftok hq) (pz_nms hq) h1.own h1.K h6 (pz_D h1.inj s.heap.size) h7 c (pz_at hc (pz_no hc)) hq j hjl (va_tabs rfl rfl hl) (fun x hx => hx) hfin hpt hnar hfit hll hd kk
  · exact va_putN (own := pz_cn (pm_own k)) (ref := pz_cn ci) (C := pz_cn ci) (T := pz_u ci) (N := pz_nf ci) (host := host) h1.1 h1.2.1 (pz_lays h1.T ci hq args) (fun w hw => hw) (pz_ft ci) (pz_ftok hq) (pz_nms hq) h1.own h1.K h6 (pz_D h1.inj s.heap.size) h7 c (pz_at hc (pz_no hc)) hq j hjl (va_tabs rfl rfl hl) (fun x hx => hx) hfin hpt hnar hfit hll hd kk
end PZ3
