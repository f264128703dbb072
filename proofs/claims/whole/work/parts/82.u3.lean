/-! PURE: class and reference side by side -/
/-- both circuits are the same, the search's cells are as a call leaves them; n calls may follow -/
def CpA (M : pm_M) (n : Int) : Prop := RK M ∧ SrS M ∧ (M 0 6 = 0 ∧ M 10 0 = 0 ∧ (∀ f, M 1 6 ≤ f → M 10 f = 0) ∧ ∀ k, 0 ≤ k → k < 12 → pm_bit (M 30 k)) ∧ (0 ≤ n ∧ n ≤ M 99 0 ∧ M 3 2 + 86016 * n ≤ 2147483647)
/-- the same list -/
def CpL (M : pm_M) : Prop := LI M ∧ M 24 3 = M 0 5 ∧ ∀ i, 0 ≤ i → i < M 0 5 → M 29 i = M 6 i
/-- the same inputs -/
def CpT (M : pm_M) : Prop := ∀ k, 0 ≤ k → k < M 1 7 → M 10 (M 12 k) = M 30 k
def CpI (M : pm_M) (n : Int) : Prop := CpA M n ∧ CpL M ∧ CpT M
theorem CpI.of {M M' : pm_M} {n n' : Int} (h : CpI M n) (e : ∀ c, (c ≤ 23 ∨ (25 ≤ c ∧ c ≤ 30)) → M' c = M c) (e24 : ∀ j, j ≠ 0 → M' 24 j = M 24 j) (h0 : 0 ≤ n') (hn : n' ≤ n) (h9 : n' ≤ M' 99 0) : CpI M' n' := by
  obtain ⟨⟨hR, hS, ⟨a1, a2, a3, a4⟩, ⟨n0, n1, n2⟩⟩, ⟨l1, l2, l3⟩, t⟩ := h
  have e0 : M' 0 = M 0 := e 0 (by omega)
  have e1 : M' 1 = M 1 := e 1 (by omega)
  have e3 : M' 3 = M 3 := e 3 (by omega)
  have e6 : M' 6 = M 6 := e 6 (by omega)
  have e10 : M' 10 = M 10 := e 10 (by omega)
  have e12 : M' 12 = M 12 := e 12 (by omega)
  have e29 : M' 29 = M 29 := e 29 (by omega)
  have e30 : M' 30 = M 30 := e 30 (by omega)
  refine ⟨⟨hR.of e1 (e 7 (by omega)) (e 8 (by omega)) (e 9 (by omega)) e12 (e24 1 (by decide)) (e24 2 (by decide)) (e 25 (by omega)) (e 26 (by omega)) (e 27 (by omega)) (e 28 (by omega)), hS.of e3 (e 5 (by omega)) (e 14 (by omega)) (e 15 (by omega)) (e 18 (by omega)) (e 20 (by omega)) (e 22 (by omega)), ⟨by rw [e0]; exact a1, by rw [e10]; exact a2, by rw [e10, e1]; exact a3, by rw [e30]; exact a4⟩, ⟨h0, h9, by rw [e3]; omega⟩⟩, ⟨by unfold LI; rw [e0, e6, e1]; exact l1, by rw [e24 3 (by decide), e0]; exact l2, by rw [e0, e29, e6]; exact l3⟩, by unfold CpT; rw [e1, e10, e12, e30]; exact t⟩
/-- both threw -/
theorem CpI.thr {M M1 : pm_M} {n x : Int} (h : CpI M (n + 1)) (hn : 0 ≤ n) (f : ∀ c, c ≠ 99 → M1 c = M c) (f9 : M1 99 0 = M 99 0 - 1) : CpI (pm_set (pm_set M1 24 0 0) 24 0 x) n := by
  have h9 := h.1.2.2.2.2.1
  refine h.of (fun c hc => ?_) (fun j hj => ?_) hn (by omega) ?_
  · rw [pm_set_off c (by omega), pm_set_off c (by omega)]
    exact f c (by omega)
  · rw [pm_get_j hj rfl, pm_get_j hj rfl, f 24 (by decide)]
  · rw [pm_set_off 99 (by decide), pm_set_off 99 (by decide), f9]
    omega
/-- a call that changed nothing but what was thrown and what comes out -/
theorem CpI.nil {M M1 : pm_M} {n x : Int} (h : CpI M (n + 1)) (hn : 0 ≤ n) (f : ∀ c, c ≠ 34 → M1 c = M c) : CpI (pm_set M1 24 0 x) n := by
  have h9 := h.1.2.2.2.2.1
  refine h.of (fun c hc => ?_) (fun j hj => ?_) hn (by omega) ?_
  · rw [pm_set_off c (by omega)]
    exact f c (by omega)
  · rw [pm_get_j hj rfl, f 24 (by decide)]
  · rw [pm_set_off 99 (by decide), f 99 (by decide)]
    omega
/-- a formula more -/
theorem RK.grow {M M' : pm_M} (h : RK M) (hF : M 1 6 < 2000) (e16 : M' 1 6 = M 1 6 + 1) (e17 : M 1 7 ≤ M' 1 7) (o12 : ∀ k, 0 ≤ k → k < M 1 7 → M' 12 k = M 12 k) (o7 : ∀ f, f ≠ M 1 6 → M' 7 f = M 7 f) (o8 : ∀ f, f ≠ M 1 6 → M' 8 f = M 8 f) (o9 : ∀ f, f ≠ M 1 6 → M' 9 f = M 9 f) (o25 : ∀ f, f ≠ M 1 6 → M' 25 f = M 25 f) (o26 : ∀ f, f ≠ M 1 6 → M' 26 f = M 26 f) (o27 : ∀ f, f ≠ M 1 6 → M' 27 f = M 27 f) (o28 : ∀ f, f ≠ M 1 6 → M' 28 f = M 28 f)
    (k1 : M' 24 1 = M 1 6 + 1) (k2 : M' 24 2 = M' 1 7) (hn : KD M' (M 1 6)) (hI : IN M') (h7 : ∀ k, 0 ≤ k → k < M' 1 7 → M' 7 (M' 12 k) = -1) : RK M' := by
  obtain ⟨hW, hI0, q1, q2, hK, h70⟩ := h
  have hF0 := hW.1
  have kd : ∀ f, 0 ≤ f → f < M' 1 6 → KD M' f := by
    intro f f0 f1
    rcases (by omega : f = M 1 6 ∨ f < M 1 6) with w | w
    · rw [w]; exact hn
    · have h := hK f f0 w
      have ne : f ≠ M 1 6 := by omega
      unfold KD at h ⊢
      rw [o7 f ne, o8 f ne, o9 f ne, o25 f ne, o26 f ne, o27 f ne, o28 f ne]
      rcases h with h | ⟨a, b0, b1, b2, b3⟩ | h
      · exact Or.inl h
      · exact Or.inr (Or.inl ⟨a, b0, b1, ⟨b2.1, by omega⟩, by rw [o12 _ b2.1 b2.2]; exact b3⟩)
      · exact Or.inr (Or.inr h)
  refine ⟨⟨⟨by omega, by omega⟩, fun f f0 f1 f2 => ?_⟩, hI, by omega, k2, kd, h7⟩
  rcases kd f (by omega) f1 with ⟨a, b⟩ | ⟨a, b0, b1, b2, b3⟩ | ⟨a, b0, b1, b2, b3, b4⟩ | ⟨a, b0, b1, b2, b3, b4, b5⟩ | ⟨a, b0, b1, b2, b3, b4, b5⟩ | ⟨a, b0, b1, b2, b3, b4, b5⟩ | ⟨a, b0, b1, b2, b2', b3, b4, b5⟩
  · omega
  · exact absurd b1 f2
  · omega
  · omega
  · omega
  · rw [op_two] at b4; omega
  · omega
/-- what the class writes for a gate, and the helper of the law behind it -/
abbrev ag_c (M : pm_M) (x y z : Int) : pm_M := pm_set (pm_set (pm_set (pm_set (pm_set M 7 (M 1 6) x) 8 (M 1 6) y) 9 (M 1 6) z) 1 6 (M 1 6 + 1)) 34 0 (M 1 6)
/-- what the reference writes -/
abbrev ag_r (M : pm_M) (k a b c : Int) : pm_M := pm_set (pm_set (pm_set (pm_set (pm_set (pm_set M 24 0 0) 25 (M 24 1) k) 26 (M 24 1) a) 27 (M 24 1) b) 28 (M 24 1) c) 24 1 (M 24 1 + 1)
theorem ag_c_o {M : pm_M} {x y z : Int} (c : Nat) (h1 : c ≠ 1) (h7 : c ≠ 7) (h8 : c ≠ 8) (h9 : c ≠ 9) (h34 : c ≠ 34) : ag_c M x y z c = M c := by
  unfold ag_c
  rw [pm_set_off c h34, pm_set_off c h1, pm_set_off c h9, pm_set_off c h8, pm_set_off c h7]
theorem ag_c_1 {M : pm_M} {x y z : Int} : ag_c M x y z 1 = upf (M 1) 6 (M 1 6 + 1) := by
  unfold ag_c
  rw [pm_set_off 1 (by decide), pm_cell, if_pos rfl, pm_set_off 1 (by decide), pm_set_off 1 (by decide), pm_set_off 1 (by decide)]
theorem ag_c_7 {M : pm_M} {x y z : Int} : ag_c M x y z 7 = upf (M 7) (M 1 6) x := by
  unfold ag_c
  rw [pm_set_off 7 (by decide), pm_set_off 7 (by decide), pm_set_off 7 (by decide), pm_set_off 7 (by decide), pm_cell, if_pos rfl]
theorem ag_c_8 {M : pm_M} {x y z : Int} : ag_c M x y z 8 = upf (M 8) (M 1 6) y := by
  unfold ag_c
  rw [pm_set_off 8 (by decide), pm_set_off 8 (by decide), pm_set_off 8 (by decide), pm_cell, if_pos rfl, pm_set_off 8 (by decide)]
theorem ag_c_9 {M : pm_M} {x y z : Int} : ag_c M x y z 9 = upf (M 9) (M 1 6) z := by
  unfold ag_c
  rw [pm_set_off 9 (by decide), pm_set_off 9 (by decide), pm_cell, if_pos rfl, pm_set_off 9 (by decide), pm_set_off 9 (by decide)]
theorem ag_c_34 {M : pm_M} {x y z : Int} : ag_c M x y z 34 0 = M 1 6 := pm_get_e
theorem ag_r_o {M : pm_M} {k a b d : Int} (c : Nat) (h : c ≤ 23 ∨ 29 ≤ c) : ag_r M k a b d c = M c := by
  unfold ag_r
  rw [pm_set_off c (by omega), pm_set_off c (by omega), pm_set_off c (by omega), pm_set_off c (by omega), pm_set_off c (by omega), pm_set_off c (by omega)]
theorem ag_r_24 {M : pm_M} {k a b d : Int} : ag_r M k a b d 24 = upf (upf (M 24) 0 0) 1 (M 24 1 + 1) := by
  unfold ag_r
  rw [pm_cell, if_pos rfl, pm_set_off 24 (by decide), pm_set_off 24 (by decide), pm_set_off 24 (by decide), pm_set_off 24 (by decide), pm_cell, if_pos rfl]
theorem ag_r_25 {M : pm_M} {k a b d : Int} : ag_r M k a b d 25 = upf (M 25) (M 24 1) k := by
  unfold ag_r
  rw [pm_set_off 25 (by decide), pm_set_off 25 (by decide), pm_set_off 25 (by decide), pm_set_off 25 (by decide), pm_cell, if_pos rfl, pm_set_off 25 (by decide)]
theorem ag_r_26 {M : pm_M} {k a b d : Int} : ag_r M k a b d 26 = upf (M 26) (M 24 1) a := by
  unfold ag_r
  rw [pm_set_off 26 (by decide), pm_set_off 26 (by decide), pm_set_off 26 (by decide), pm_cell, if_pos rfl, pm_set_off 26 (by decide), pm_set_off 26 (by decide)]
theorem ag_r_27 {M : pm_M} {k a b d : Int} : ag_r M k a b d 27 = upf (M 27) (M 24 1) b := by
  unfold ag_r
  rw [pm_set_off 27 (by decide), pm_set_off 27 (by decide), pm_cell, if_pos rfl, pm_set_off 27 (by decide), pm_set_off 27 (by decide), pm_set_off 27 (by decide)]
theorem ag_r_28 {M : pm_M} {k a b d : Int} : ag_r M k a b d 28 = upf (M 28) (M 24 1) d := by
  unfold ag_r
  rw [pm_set_off 28 (by decide), pm_cell, if_pos rfl, pm_set_off 28 (by decide), pm_set_off 28 (by decide), pm_set_off 28 (by decide), pm_set_off 28 (by decide)]
/-- the kinds of gates -/
def KdX (F k a b c x y z : Int) : Prop :=
  (k = 2 ∧ (0 ≤ a ∧ a < F) ∧ x = 2 * a ∧ y = 0 ∧ z = 1) ∨ (k = 3 ∧ (0 ≤ a ∧ a < F) ∧ (0 ≤ b ∧ b < F) ∧ x = 2 * a ∧ y = 2 * b ∧ z = 0) ∨ (k = 4 ∧ (0 ≤ a ∧ a < F) ∧ (0 ≤ b ∧ b < F) ∧ x = 2 * a ∧ y = 1 ∧ z = 2 * b) ∨
  (k = 5 ∧ (0 ≤ a ∧ a < F) ∧ (0 ≤ b ∧ b < F) ∧ x = 2 * a ∧ y = pm_op (2 * b) ∧ z = 2 * b) ∨ (k = 6 ∧ (0 ≤ a ∧ a < F) ∧ (0 ≤ b ∧ b < F) ∧ (0 ≤ c ∧ c < F) ∧ x = 2 * a ∧ y = 2 * b ∧ z = 2 * c)
theorem gate_in {M : pm_M} {n k a b c x y z : Int} (hC : CpI M (n + 1)) (hn : 0 ≤ n) (hF : M 1 6 < 2000) (hk : KdX (M 1 6) k a b c x y z) :
    CpI (ag_r (ag_c M x y z) k a b c) n ∧ ag_r (ag_c M x y z) k a b c 24 0 = 0 ∧ ag_r (ag_c M x y z) k a b c 34 0 = M 1 6 := by
  obtain ⟨⟨hR, hS, ⟨a1, a2, a3, a4⟩, ⟨n0, n1, n2⟩⟩, ⟨l1, l2, l3⟩, t⟩ := hC
  have hF0 := hR.1.1
  have q1 := hR.2.2.1
  have q2 := hR.2.2.2.1
  have hI := hR.2.1
  have h7 := hR.2.2.2.2.2
  have c24 : ag_c M x y z 24 = M 24 := ag_c_o 24 (by decide) (by decide) (by decide) (by decide) (by decide)
  have c25 : ag_c M x y z 25 = M 25 := ag_c_o 25 (by decide) (by decide) (by decide) (by decide) (by decide)
  have c26 : ag_c M x y z 26 = M 26 := ag_c_o 26 (by decide) (by decide) (by decide) (by decide) (by decide)
  have c27 : ag_c M x y z 27 = M 27 := ag_c_o 27 (by decide) (by decide) (by decide) (by decide) (by decide)
  have c28 : ag_c M x y z 28 = M 28 := ag_c_o 28 (by decide) (by decide) (by decide) (by decide) (by decide)
  have r1 : ag_r (ag_c M x y z) k a b c 1 = upf (M 1) 6 (M 1 6 + 1) := (ag_r_o 1 (by omega)).trans ag_c_1
  have r7 : ag_r (ag_c M x y z) k a b c 7 = upf (M 7) (M 1 6) x := (ag_r_o 7 (by omega)).trans ag_c_7
  have r8 : ag_r (ag_c M x y z) k a b c 8 = upf (M 8) (M 1 6) y := (ag_r_o 8 (by omega)).trans ag_c_8
  have r9 : ag_r (ag_c M x y z) k a b c 9 = upf (M 9) (M 1 6) z := (ag_r_o 9 (by omega)).trans ag_c_9
  have r34 : ag_r (ag_c M x y z) k a b c 34 0 = M 1 6 := by rw [ag_r_o 34 (by omega)]; exact ag_c_34
  have r24 : ag_r (ag_c M x y z) k a b c 24 = upf (upf (M 24) 0 0) 1 (M 1 6 + 1) := by rw [ag_r_24, c24, q1]
  have r25 : ag_r (ag_c M x y z) k a b c 25 = upf (M 25) (M 1 6) k := by rw [ag_r_25, c24, c25, q1]
  have r26 : ag_r (ag_c M x y z) k a b c 26 = upf (M 26) (M 1 6) a := by rw [ag_r_26, c24, c26, q1]
  have r27 : ag_r (ag_c M x y z) k a b c 27 = upf (M 27) (M 1 6) b := by rw [ag_r_27, c24, c27, q1]
  have r28 : ag_r (ag_c M x y z) k a b c 28 = upf (M 28) (M 1 6) c := by rw [ag_r_28, c24, c28, q1]
  have ro : ∀ c', (c' = 0 ∨ (2 ≤ c' ∧ c' ≤ 6) ∨ (10 ≤ c' ∧ c' ≤ 23) ∨ (29 ≤ c' ∧ c' ≤ 33) ∨ 35 ≤ c') → ag_r (ag_c M x y z) k a b c c' = M c' := fun c' hc => (ag_r_o c' (by omega)).trans (ag_c_o c' (by omega) (by omega) (by omega) (by omega) (by omega))
  generalize ag_r (ag_c M x y z) k a b c = M' at *
  have e0 : M' 0 = M 0 := ro 0 (by omega)
  have e3 : M' 3 = M 3 := ro 3 (by omega)
  have e6 : M' 6 = M 6 := ro 6 (by omega)
  have e10 : M' 10 = M 10 := ro 10 (by omega)
  have e12 : M' 12 = M 12 := ro 12 (by omega)
  have e29 : M' 29 = M 29 := ro 29 (by omega)
  have e30 : M' 30 = M 30 := ro 30 (by omega)
  have e99 : M' 99 = M 99 := ro 99 (by omega)
  have e16 : M' 1 6 = M 1 6 + 1 := by rw [r1, upf_e]
  have e17 : M' 1 7 = M 1 7 := by rw [r1, upf_n _ _ (by decide)]
  have k0 : M' 24 0 = 0 := by rw [r24, upf_n _ _ (by decide), upf_e]
  have k1 : M' 24 1 = M 1 6 + 1 := by rw [r24, upf_e]
  have k2 : M' 24 2 = M 24 2 := by rw [r24, upf_n _ _ (by decide), upf_n _ _ (by decide)]
  have k3 : M' 24 3 = M 24 3 := by rw [r24, upf_n _ _ (by decide), upf_n _ _ (by decide)]
  have kd : KD M' (M 1 6) := by
    unfold KD
    rw [r7, r8, r9, r25, r26, r27, r28, upf_e, upf_e, upf_e, upf_e, upf_e, upf_e, upf_e]
    rcases hk with ⟨b0, b1, b2, b3, b4⟩ | ⟨b0, b1, b2, b3, b4, b5⟩ | ⟨b0, b1, b2, b3, b4, b5⟩ | ⟨b0, b1, b2, b3, b4, b5⟩ | ⟨b0, b1, b2, b3, b4, b5, b6⟩
    · exact Or.inr (Or.inr (Or.inl ⟨b0, by omega, b1, b2, b3, b4⟩))
    · exact Or.inr (Or.inr (Or.inr (Or.inl ⟨b0, by omega, b1, b2, b3, b4, b5⟩)))
    · exact Or.inr (Or.inr (Or.inr (Or.inr (Or.inl ⟨b0, by omega, b1, b2, b3, b4, b5⟩))))
    · exact Or.inr (Or.inr (Or.inr (Or.inr (Or.inr (Or.inl ⟨b0, by omega, b1, b2, b3, b4, b5⟩)))))
    · exact Or.inr (Or.inr (Or.inr (Or.inr (Or.inr (Or.inr ⟨b0, by omega, b1, b2, b3, b4, b5, b6⟩)))))
  have hR' : RK M' := by
    refine hR.grow hF e16 (by omega) (fun k _ _ => by rw [e12]) (fun f hf => by rw [r7, upf_n _ _ hf]) (fun f hf => by rw [r8, upf_n _ _ hf]) (fun f hf => by rw [r9, upf_n _ _ hf]) (fun f hf => by rw [r25, upf_n _ _ hf]) (fun f hf => by rw [r26, upf_n _ _ hf]) (fun f hf => by rw [r27, upf_n _ _ hf]) (fun f hf => by rw [r28, upf_n _ _ hf]) k1 (by omega) kd ?_ ?_
    · unfold IN
      rw [e17, e12, e16]
      exact ⟨hI.1, fun k ka kb => ⟨(hI.2.1 k ka kb).1, by have := (hI.2.1 k ka kb).2; omega⟩, hI.2.2⟩
    · rw [e17, e12, r7]
      intro k ka kb
      have := (hI.2.1 k ka kb).2
      rw [upf_n _ _ (by omega)]
      exact h7 k ka kb
  refine ⟨⟨⟨hR', hS.of e3 (ro 5 (by omega)) (ro 14 (by omega)) (ro 15 (by omega)) (ro 18 (by omega)) (ro 20 (by omega)) (ro 22 (by omega)), ⟨by rw [e0]; exact a1, by rw [e10]; exact a2, by rw [e10, e16]; exact fun f hf => a3 f (by omega), by rw [e30]; exact a4⟩, ⟨hn, by rw [e99]; omega, by rw [e3]; omega⟩⟩, ⟨?_, by rw [k3, e0]; exact l2, by rw [e0, e29, e6]; exact l3⟩, by unfold CpT; rw [e17, e10, e12, e30]; exact t⟩, k0, r34⟩
  unfold LI
  rw [e0, e6, e16]
  exact ⟨l1.1, fun i i0 i1 => ⟨(l1.2 i i0 i1).1, by have := (l1.2 i i0 i1).2; omega⟩⟩
/-- what both write for an input -/
abbrev ai_c (M : pm_M) : pm_M := pm_set (pm_set (pm_set (pm_set (pm_set (pm_set (pm_set M 12 (M 1 7) (M 1 6)) 1 7 (M 1 7 + 1)) 7 (M 1 6) (-1)) 8 (M 1 6) 0) 9 (M 1 6) 0) 1 6 (M 1 6 + 1)) 34 0 (M 1 6)
abbrev ai_r (M : pm_M) : pm_M := pm_set (pm_set (pm_set (pm_set (pm_set (pm_set (pm_set (pm_set M 24 0 0) 30 (M 24 2) 0) 24 2 (M 24 2 + 1)) 25 (M 24 1) 1) 26 (M 24 1) (M 24 2)) 27 (M 24 1) 0) 28 (M 24 1) 0) 24 1 (M 24 1 + 1)
theorem ai_c_o {M : pm_M} (c : Nat) (h1 : c ≠ 1) (h7 : c ≠ 7) (h8 : c ≠ 8) (h9 : c ≠ 9) (h12 : c ≠ 12) (h34 : c ≠ 34) : ai_c M c = M c := by
  unfold ai_c
  rw [pm_set_off c h34, pm_set_off c h1, pm_set_off c h9, pm_set_off c h8, pm_set_off c h7, pm_set_off c h1, pm_set_off c h12]
theorem ai_c_1 {M : pm_M} : ai_c M 1 = upf (upf (M 1) 7 (M 1 7 + 1)) 6 (M 1 6 + 1) := by
  unfold ai_c
  rw [pm_set_off 1 (by decide), pm_cell, if_pos rfl, pm_set_off 1 (by decide), pm_set_off 1 (by decide), pm_set_off 1 (by decide), pm_cell, if_pos rfl, pm_set_off 1 (by decide)]
theorem ai_c_7 {M : pm_M} : ai_c M 7 = upf (M 7) (M 1 6) (-1) := by
  unfold ai_c
  rw [pm_set_off 7 (by decide), pm_set_off 7 (by decide), pm_set_off 7 (by decide), pm_set_off 7 (by decide), pm_cell, if_pos rfl, pm_set_off 7 (by decide), pm_set_off 7 (by decide)]
theorem ai_c_8 {M : pm_M} : ai_c M 8 = upf (M 8) (M 1 6) 0 := by
  unfold ai_c
  rw [pm_set_off 8 (by decide), pm_set_off 8 (by decide), pm_set_off 8 (by decide), pm_cell, if_pos rfl, pm_set_off 8 (by decide), pm_set_off 8 (by decide), pm_set_off 8 (by decide)]
theorem ai_c_9 {M : pm_M} : ai_c M 9 = upf (M 9) (M 1 6) 0 := by
  unfold ai_c
  rw [pm_set_off 9 (by decide), pm_set_off 9 (by decide), pm_cell, if_pos rfl, pm_set_off 9 (by decide), pm_set_off 9 (by decide), pm_set_off 9 (by decide), pm_set_off 9 (by decide)]
theorem ai_c_12 {M : pm_M} : ai_c M 12 = upf (M 12) (M 1 7) (M 1 6) := by
  unfold ai_c
  rw [pm_set_off 12 (by decide), pm_set_off 12 (by decide), pm_set_off 12 (by decide), pm_set_off 12 (by decide), pm_set_off 12 (by decide), pm_set_off 12 (by decide), pm_cell, if_pos rfl]
theorem ai_r_o {M : pm_M} (c : Nat) (h : c ≤ 23 ∨ c = 29 ∨ 31 ≤ c) : ai_r M c = M c := by
  unfold ai_r
  rw [pm_set_off c (by omega), pm_set_off c (by omega), pm_set_off c (by omega), pm_set_off c (by omega), pm_set_off c (by omega), pm_set_off c (by omega), pm_set_off c (by omega), pm_set_off c (by omega)]
theorem ai_r_24 {M : pm_M} : ai_r M 24 = upf (upf (upf (M 24) 0 0) 2 (M 24 2 + 1)) 1 (M 24 1 + 1) := by
  unfold ai_r
  rw [pm_cell, if_pos rfl, pm_set_off 24 (by decide), pm_set_off 24 (by decide), pm_set_off 24 (by decide), pm_set_off 24 (by decide), pm_cell, if_pos rfl, pm_set_off 24 (by decide), pm_cell, if_pos rfl]
theorem ai_r_25 {M : pm_M} : ai_r M 25 = upf (M 25) (M 24 1) 1 := by
  unfold ai_r
  rw [pm_set_off 25 (by decide), pm_set_off 25 (by decide), pm_set_off 25 (by decide), pm_set_off 25 (by decide), pm_cell, if_pos rfl, pm_set_off 25 (by decide), pm_set_off 25 (by decide), pm_set_off 25 (by decide)]
theorem ai_r_26 {M : pm_M} : ai_r M 26 = upf (M 26) (M 24 1) (M 24 2) := by
  unfold ai_r
  rw [pm_set_off 26 (by decide), pm_set_off 26 (by decide), pm_set_off 26 (by decide), pm_cell, if_pos rfl, pm_set_off 26 (by decide), pm_set_off 26 (by decide), pm_set_off 26 (by decide), pm_set_off 26 (by decide)]
theorem ai_r_27 {M : pm_M} : ai_r M 27 = upf (M 27) (M 24 1) 0 := by
  unfold ai_r
  rw [pm_set_off 27 (by decide), pm_set_off 27 (by decide), pm_cell, if_pos rfl, pm_set_off 27 (by decide), pm_set_off 27 (by decide), pm_set_off 27 (by decide), pm_set_off 27 (by decide), pm_set_off 27 (by decide)]
theorem ai_r_28 {M : pm_M} : ai_r M 28 = upf (M 28) (M 24 1) 0 := by
  unfold ai_r
  rw [pm_set_off 28 (by decide), pm_cell, if_pos rfl, pm_set_off 28 (by decide), pm_set_off 28 (by decide), pm_set_off 28 (by decide), pm_set_off 28 (by decide), pm_set_off 28 (by decide), pm_set_off 28 (by decide)]
theorem ai_r_30 {M : pm_M} : ai_r M 30 = upf (M 30) (M 24 2) 0 := by
  unfold ai_r
  rw [pm_set_off 30 (by decide), pm_set_off 30 (by decide), pm_set_off 30 (by decide), pm_set_off 30 (by decide), pm_set_off 30 (by decide), pm_set_off 30 (by decide), pm_cell, if_pos rfl, pm_set_off 30 (by decide)]
theorem input_in {M : pm_M} {n : Int} (hC : CpI M (n + 1)) (hn : 0 ≤ n) (hF : M 1 6 < 2000) (hN : M 1 7 < 12) :
    CpI (ai_r (ai_c M)) n ∧ ai_r (ai_c M) 24 0 = 0 ∧ ai_r (ai_c M) 34 0 = M 1 6 := by
  obtain ⟨⟨hR, hS, ⟨a1, a2, a3, a4⟩, ⟨n0, n1, n2⟩⟩, ⟨l1, l2, l3⟩, t⟩ := hC
  have hF0 := hR.1.1
  have q1 := hR.2.2.1
  have q2 := hR.2.2.2.1
  have hI := hR.2.1
  have h7 := hR.2.2.2.2.2
  have hN0 := hI.1
  have c24 : ai_c M 24 = M 24 := ai_c_o 24 (by decide) (by decide) (by decide) (by decide) (by decide) (by decide)
  have c25 : ai_c M 25 = M 25 := ai_c_o 25 (by decide) (by decide) (by decide) (by decide) (by decide) (by decide)
  have c26 : ai_c M 26 = M 26 := ai_c_o 26 (by decide) (by decide) (by decide) (by decide) (by decide) (by decide)
  have c27 : ai_c M 27 = M 27 := ai_c_o 27 (by decide) (by decide) (by decide) (by decide) (by decide) (by decide)
  have c28 : ai_c M 28 = M 28 := ai_c_o 28 (by decide) (by decide) (by decide) (by decide) (by decide) (by decide)
  have c30 : ai_c M 30 = M 30 := ai_c_o 30 (by decide) (by decide) (by decide) (by decide) (by decide) (by decide)
  have r1 : ai_r (ai_c M) 1 = upf (upf (M 1) 7 (M 1 7 + 1)) 6 (M 1 6 + 1) := (ai_r_o 1 (by omega)).trans ai_c_1
  have r7 : ai_r (ai_c M) 7 = upf (M 7) (M 1 6) (-1) := (ai_r_o 7 (by omega)).trans ai_c_7
  have r8 : ai_r (ai_c M) 8 = upf (M 8) (M 1 6) 0 := (ai_r_o 8 (by omega)).trans ai_c_8
  have r9 : ai_r (ai_c M) 9 = upf (M 9) (M 1 6) 0 := (ai_r_o 9 (by omega)).trans ai_c_9
  have r12 : ai_r (ai_c M) 12 = upf (M 12) (M 1 7) (M 1 6) := (ai_r_o 12 (by omega)).trans ai_c_12
  have r34 : ai_r (ai_c M) 34 0 = M 1 6 := by rw [ai_r_o 34 (by omega)]; exact pm_get_e
  have r24 : ai_r (ai_c M) 24 = upf (upf (upf (M 24) 0 0) 2 (M 1 7 + 1)) 1 (M 1 6 + 1) := by rw [ai_r_24, c24, q1, q2]
  have r25 : ai_r (ai_c M) 25 = upf (M 25) (M 1 6) 1 := by rw [ai_r_25, c24, c25, q1]
  have r26 : ai_r (ai_c M) 26 = upf (M 26) (M 1 6) (M 1 7) := by rw [ai_r_26, c24, c26, q1, q2]
  have r27 : ai_r (ai_c M) 27 = upf (M 27) (M 1 6) 0 := by rw [ai_r_27, c24, c27, q1]
  have r28 : ai_r (ai_c M) 28 = upf (M 28) (M 1 6) 0 := by rw [ai_r_28, c24, c28, q1]
  have r30 : ai_r (ai_c M) 30 = upf (M 30) (M 1 7) 0 := by rw [ai_r_30, c24, c30, q2]
  have ro : ∀ c', (c' = 0 ∨ (2 ≤ c' ∧ c' ≤ 6) ∨ (10 ≤ c' ∧ c' ≤ 11) ∨ (13 ≤ c' ∧ c' ≤ 23) ∨ c' = 29 ∨ (31 ≤ c' ∧ c' ≤ 33) ∨ 35 ≤ c') → ai_r (ai_c M) c' = M c' := fun c' hc => (ai_r_o c' (by omega)).trans (ai_c_o c' (by omega) (by omega) (by omega) (by omega) (by omega) (by omega))
  generalize ai_r (ai_c M) = M' at *
  have e0 : M' 0 = M 0 := ro 0 (by omega)
  have e3 : M' 3 = M 3 := ro 3 (by omega)
  have e6 : M' 6 = M 6 := ro 6 (by omega)
  have e10 : M' 10 = M 10 := ro 10 (by omega)
  have e29 : M' 29 = M 29 := ro 29 (by omega)
  have e99 : M' 99 = M 99 := ro 99 (by omega)
  have e16 : M' 1 6 = M 1 6 + 1 := by rw [r1, upf_e]
  have e17 : M' 1 7 = M 1 7 + 1 := by rw [r1, upf_n _ _ (by decide), upf_e]
  have k0 : M' 24 0 = 0 := by rw [r24, upf_n _ _ (by decide), upf_n _ _ (by decide), upf_e]
  have k1 : M' 24 1 = M 1 6 + 1 := by rw [r24, upf_e]
  have k2 : M' 24 2 = M 1 7 + 1 := by rw [r24, upf_n _ _ (by decide), upf_e]
  have k3 : M' 24 3 = M 24 3 := by rw [r24, upf_n _ _ (by decide), upf_n _ _ (by decide), upf_n _ _ (by decide)]
  have o12 : ∀ k, k < M 1 7 → M' 12 k = M 12 k := fun k hk => by rw [r12, upf_n _ _ (by omega)]
  have n12 : M' 12 (M 1 7) = M 1 6 := by rw [r12, upf_e]
  have o30 : ∀ k, k ≠ M 1 7 → M' 30 k = M 30 k := fun k hk => by rw [r30, upf_n _ _ hk]
  have n30 : M' 30 (M 1 7) = 0 := by rw [r30, upf_e]
  have o7 : ∀ f, f ≠ M 1 6 → M' 7 f = M 7 f := fun f hf => by rw [r7, upf_n _ _ hf]
  have n7 : M' 7 (M 1 6) = -1 := by rw [r7, upf_e]
  have kd : KD M' (M 1 6) := Or.inr (Or.inl ⟨by rw [r25, upf_e], by omega, n7, by rw [r26, upf_e, e17]; omega, by rw [r26, upf_e]; exact n12⟩)
  have hR' : RK M' := by
    refine hR.grow hF e16 (by omega) (fun k _ hk => o12 k hk) o7 (fun f hf => by rw [r8, upf_n _ _ hf]) (fun f hf => by rw [r9, upf_n _ _ hf]) (fun f hf => by rw [r25, upf_n _ _ hf]) (fun f hf => by rw [r26, upf_n _ _ hf]) (fun f hf => by rw [r27, upf_n _ _ hf]) (fun f hf => by rw [r28, upf_n _ _ hf]) k1 (by omega) kd ?_ ?_
    · refine ⟨⟨by omega, by omega⟩, fun k ka kb => ?_, fun j k ja jb ka kb hjk => ?_⟩
      · rcases (by omega : k = M 1 7 ∨ k < M 1 7) with w | w
        · rw [w, n12, e16]; omega
        · rw [o12 k w, e16]
          have := hI.2.1 k ka w
          omega
      · rcases (by omega : (j = M 1 7 ∧ k = M 1 7) ∨ (j = M 1 7 ∧ k < M 1 7) ∨ (j < M 1 7 ∧ k = M 1 7) ∨ (j < M 1 7 ∧ k < M 1 7)) with w | w | w | w
        · omega
        · rw [w.1, n12, o12 k w.2] at hjk
          have := hI.2.1 k ka w.2
          omega
        · rw [w.2, n12, o12 j w.1] at hjk
          have := hI.2.1 j ja w.1
          omega
        · rw [o12 j w.1, o12 k w.2] at hjk
          exact hI.2.2 j k ja w.1 ka w.2 hjk
    · intro k ka kb
      rcases (by omega : k = M 1 7 ∨ k < M 1 7) with w | w
      · rw [w, n12]; exact n7
      · have := hI.2.1 k ka w
        rw [o12 k w, o7 _ (by omega)]
        exact h7 k ka w
  refine ⟨⟨⟨hR', hS.of e3 (ro 5 (by omega)) (ro 14 (by omega)) (ro 15 (by omega)) (ro 18 (by omega)) (ro 20 (by omega)) (ro 22 (by omega)), ⟨by rw [e0]; exact a1, by rw [e10]; exact a2, by rw [e10, e16]; exact fun f hf => a3 f (by omega), fun k ka kb => ?_⟩, ⟨hn, by rw [e99]; omega, by rw [e3]; omega⟩⟩, ⟨?_, by rw [k3, e0]; exact l2, by rw [e0, e29, e6]; exact l3⟩, fun k ka kb => ?_⟩, k0, r34⟩
  · rcases (by omega : k = M 1 7 ∨ k ≠ M 1 7) with w | w
    · rw [w, n30]; exact Or.inl rfl
    · rw [o30 k w]; exact a4 k ka kb
  · unfold LI
    rw [e0, e6, e16]
    exact ⟨l1.1, fun i i0 i1 => ⟨(l1.2 i i0 i1).1, by have := (l1.2 i i0 i1).2; omega⟩⟩
  · rcases (by omega : k = M 1 7 ∨ k < M 1 7) with w | w
    · rw [w, n12, n30, e10]; exact a3 _ (Int.le_refl _)
    · rw [o12 k w, o30 k (by omega), e10]; exact t k ka w
/-! PURE: the law compares -/
abbrev lw_l (a : Int) (o5 o6 : Option pm_V) : pm_L := [some (.inr (.inl 35)), some (.inr (.inl 0)), some (.inr (.inl 24)), some (.inr (.inl 34)), some (.inl a), o5, o6]
theorem cmp_0 {x y : Int} (h : x = y) : (if x < y then (-1 : Int) else if x = y then 0 else 1) = 0 := by rw [if_neg (by omega), if_pos h]
theorem e_119 {L : Nat} {Q : pm_P} {M : pm_M} {a4 a5 r : Int} {o6 : Option pm_V} (h24 : M 24 0 = a5) (h34 : a5 = 0 → M 34 0 = r) (hr : pm_R (a4 + 4)) (hh : ∀ o5 o6, pm_X L (95, 23, lw_l (a4 + 4) o5 o6, [], M) Q) : pm_X L (95, 119, lw_l a4 (some (.inl a5)) o6, [.inl r], M) Q :=
  s_95_119 ⟨fun _ => ⟨fun _ => ⟨hr, hh _ _⟩, fun hz => ⟨fun _ => ⟨hr, hh _ _⟩, fun hne => absurd (cmp_0 (h34 (Classical.not_not.mp hz))) hne⟩⟩, fun hne => absurd h24 hne⟩
theorem e_175 {L : Nat} {Q : pm_P} {M : pm_M} {a4 a5 r : Int} {o6 : Option pm_V} (h24 : M 24 0 = a5) (h34 : a5 = 0 → M 34 0 = r) (hr : pm_R (a4 + 4)) (hh : ∀ o5 o6, pm_X L (95, 23, lw_l (a4 + 4) o5 o6, [], M) Q) : pm_X L (95, 175, lw_l a4 (some (.inl a5)) o6, [.inl r], M) Q :=
  s_95_175 ⟨fun _ => ⟨fun _ => ⟨hr, hh _ _⟩, fun hz => ⟨fun _ => ⟨hr, hh _ _⟩, fun hne => absurd (cmp_0 (h34 (Classical.not_not.mp hz))) hne⟩⟩, fun hne => absurd h24 hne⟩
theorem e_255 {L : Nat} {Q : pm_P} {M : pm_M} {a4 a5 r : Int} {o6 : Option pm_V} (h24 : M 24 0 = a5) (h34 : a5 = 0 → M 34 0 = r) (hr : pm_R (a4 + 4)) (hh : ∀ o5 o6, pm_X L (95, 23, lw_l (a4 + 4) o5 o6, [], M) Q) : pm_X L (95, 255, lw_l a4 (some (.inl a5)) o6, [.inl r], M) Q :=
  s_95_255 ⟨fun _ => ⟨fun _ => ⟨hr, hh _ _⟩, fun hz => ⟨fun _ => ⟨hr, hh _ _⟩, fun hne => absurd (cmp_0 (h34 (Classical.not_not.mp hz))) hne⟩⟩, fun hne => absurd h24 hne⟩
theorem e_335 {L : Nat} {Q : pm_P} {M : pm_M} {a4 a5 r : Int} {o6 : Option pm_V} (h24 : M 24 0 = a5) (h34 : a5 = 0 → M 34 0 = r) (hr : pm_R (a4 + 4)) (hh : ∀ o5 o6, pm_X L (95, 23, lw_l (a4 + 4) o5 o6, [], M) Q) : pm_X L (95, 335, lw_l a4 (some (.inl a5)) o6, [.inl r], M) Q :=
  s_95_335 ⟨fun _ => ⟨fun _ => ⟨hr, hh _ _⟩, fun hz => ⟨fun _ => ⟨hr, hh _ _⟩, fun hne => absurd (cmp_0 (h34 (Classical.not_not.mp hz))) hne⟩⟩, fun hne => absurd h24 hne⟩
theorem e_391 {L : Nat} {Q : pm_P} {M : pm_M} {a4 a5 r : Int} {o6 : Option pm_V} (h24 : M 24 0 = a5) (h34 : a5 = 0 → M 34 0 = r) (hr : pm_R (a4 + 4)) (hh : ∀ o5 o6, pm_X L (95, 23, lw_l (a4 + 4) o5 o6, [], M) Q) : pm_X L (95, 391, lw_l a4 (some (.inl a5)) o6, [.inl r], M) Q :=
  s_95_391 ⟨fun _ => ⟨fun _ => ⟨hr, hh _ _⟩, fun hz => ⟨fun _ => ⟨hr, hh _ _⟩, fun hne => absurd (cmp_0 (h34 (Classical.not_not.mp hz))) hne⟩⟩, fun hne => absurd h24 hne⟩
theorem e_486 {L : Nat} {Q : pm_P} {M : pm_M} {a4 a5 r : Int} {o6 : Option pm_V} (h24 : M 24 0 = a5) (h34 : a5 = 0 → M 34 0 = r) (hr : pm_R (a4 + 4)) (hh : ∀ o5 o6, pm_X L (95, 23, lw_l (a4 + 4) o5 o6, [], M) Q) : pm_X L (95, 486, lw_l a4 (some (.inl a5)) o6, [.inl r], M) Q :=
  s_95_486 ⟨fun _ => ⟨fun _ => ⟨hr, hh _ _⟩, fun hz => ⟨fun _ => ⟨hr, hh _ _⟩, fun hne => absurd (cmp_0 (h34 (Classical.not_not.mp hz))) hne⟩⟩, fun hne => absurd h24 hne⟩
theorem e_554 {L : Nat} {Q : pm_P} {M : pm_M} {a4 a5 r : Int} {o6 : Option pm_V} (hb : r = 0 ∨ r = 1) (h24 : M 24 0 = a5) (h34 : a5 = 0 → M 34 0 = r) (hr : pm_R (a4 + 4)) (hh : ∀ o5 o6, pm_X L (95, 23, lw_l (a4 + 4) o5 o6, [], M) Q) : pm_X L (95, 554, lw_l a4 (some (.inl a5)) o6, [.inl r], M) Q :=
  s_95_554 ⟨fun _ => ⟨fun _ => ⟨hr, hh _ _⟩, fun hz => ⟨fun h0 => ⟨fun _ => ⟨hr, hh _ _⟩, fun hne => absurd (cmp_0 ((h34 (Classical.not_not.mp hz)).trans h0)) hne⟩, fun h1 => ⟨fun _ => ⟨hr, hh _ _⟩, fun hne => absurd (cmp_0 ((h34 (Classical.not_not.mp hz)).trans (hb.resolve_left h1))) hne⟩⟩⟩, fun hne => absurd h24 hne⟩
theorem e_645 {L : Nat} {Q : pm_P} {M : pm_M} {a4 a5 r : Int} {o6 : Option pm_V} (hb : r = 0 ∨ r = 1) (h24 : M 24 0 = a5) (h34 : a5 = 0 → M 34 0 = r) (hr : pm_R (a4 + 4)) (hh : ∀ o5 o6, pm_X L (95, 23, lw_l (a4 + 4) o5 o6, [], M) Q) : pm_X L (95, 645, lw_l a4 (some (.inl a5)) o6, [.inl r], M) Q :=
  s_95_645 ⟨fun _ => ⟨fun _ => ⟨hr, hh _ _⟩, fun hz => ⟨fun h0 => ⟨fun _ => ⟨hr, hh _ _⟩, fun hne => absurd (cmp_0 ((h34 (Classical.not_not.mp hz)).trans h0)) hne⟩, fun h1 => ⟨fun _ => ⟨hr, hh _ _⟩, fun hne => absurd (cmp_0 ((h34 (Classical.not_not.mp hz)).trans (hb.resolve_left h1))) hne⟩⟩⟩, fun hne => absurd h24 hne⟩
theorem e_708 {L : Nat} {Q : pm_P} {M : pm_M} {a4 a5 r : Int} {o6 : Option pm_V} (hb : r = 0 ∨ r = 1) (h24 : M 24 0 = a5) (h34 : a5 = 0 → M 34 0 = r) (hr : pm_R (a4 + 4)) (hh : ∀ o5 o6, pm_X L (95, 23, lw_l (a4 + 4) o5 o6, [], M) Q) : pm_X L (95, 708, lw_l a4 (some (.inl a5)) o6, [.inl r], M) Q :=
  s_95_708 ⟨fun _ => ⟨fun _ => ⟨hr, hh _ _⟩, fun hz => ⟨fun h0 => ⟨fun _ => ⟨hr, hh _ _⟩, fun hne => absurd (cmp_0 ((h34 (Classical.not_not.mp hz)).trans h0)) hne⟩, fun h1 => ⟨fun _ => ⟨hr, hh _ _⟩, fun hne => absurd (cmp_0 ((h34 (Classical.not_not.mp hz)).trans (hb.resolve_left h1))) hne⟩⟩⟩, fun hne => absurd h24 hne⟩
theorem e_432 {L : Nat} {Q : pm_P} {M : pm_M} {a4 r t0 : Int} {o5 o6 : Option pm_V} (h : t0 = r) (hr : pm_R (a4 + 4)) (hh : ∀ o5 o6, pm_X L (95, 23, lw_l (a4 + 4) o5 o6, [], M) Q) : pm_X L (95, 432, lw_l a4 o5 o6, [.inl r, .inl t0], M) Q :=
  s_95_432 ⟨fun _ => ⟨hr, hh _ _⟩, fun z => absurd h z⟩
theorem e_445 {L : Nat} {Q : pm_P} {M : pm_M} {a4 r t0 : Int} {o5 o6 : Option pm_V} (h : t0 = r) (hr : pm_R (a4 + 4)) (hh : ∀ o5 o6, pm_X L (95, 23, lw_l (a4 + 4) o5 o6, [], M) Q) : pm_X L (95, 445, lw_l a4 o5 o6, [.inl r, .inl t0], M) Q :=
  s_95_445 ⟨fun _ => ⟨hr, hh _ _⟩, fun z => absurd h z⟩
theorem e_458 {L : Nat} {Q : pm_P} {M : pm_M} {a4 r t0 : Int} {o5 o6 : Option pm_V} (h : t0 = r) (hr : pm_R (a4 + 4)) (hh : ∀ o5 o6, pm_X L (95, 23, lw_l (a4 + 4) o5 o6, [], M) Q) : pm_X L (95, 458, lw_l a4 o5 o6, [.inl r, .inl t0], M) Q :=
  s_95_458 ⟨fun _ => ⟨hr, hh _ _⟩, fun z => absurd h z⟩
theorem e_756 {L : Nat} {Q : pm_P} {M : pm_M} {a4 r t0 : Int} {o5 o6 : Option pm_V} (h : t0 = r) (hr : pm_R (a4 + 4)) (hh : ∀ o5 o6, pm_X L (95, 23, lw_l (a4 + 4) o5 o6, [], M) Q) : pm_X L (95, 756, lw_l a4 o5 o6, [.inl r, .inl t0], M) Q :=
  s_95_756 ⟨fun _ => ⟨hr, hh _ _⟩, fun z => absurd h z⟩
theorem e_781 {L : Nat} {Q : pm_P} {M : pm_M} {a4 r t0 : Int} {o5 o6 : Option pm_V} (h : t0 = r) (hr : pm_R (a4 + 4)) (hh : ∀ o5 o6, pm_X L (95, 23, lw_l (a4 + 4) o5 o6, [], M) Q) : pm_X L (95, 781, lw_l a4 o5 o6, [.inl r, .inl t0], M) Q :=
  s_95_781 ⟨fun _ => ⟨hr, hh _ _⟩, fun z => absurd h z⟩
