/-! PURE: the reference's same, asked of two formulas that are there -/
theorem p_81 {L : Nat} {Q : pm_P} {M : pm_M} {a b : Int} (hR : RK M) (ha : 0 ≤ a ∧ a < M 1 6) (hbb : 0 ≤ b ∧ b < M 1 6) (hb : ∀ k, 0 ≤ k → k < 12 → pm_bit (M 30 k))
    (hq0 : ∀ (M' : pm_M) (V : Int → Bool), (∀ c, c ≠ 24 → c ≠ 30 → c ≠ 31 → c ≠ 32 → M' c = M c) → (∀ j, j ≠ 0 → M' 24 j = M 24 j) → M' 24 0 = 0 → GV M V → (∀ k, 0 ≤ k → k < M 1 7 → M' 30 k = b01 (V (M 12 k))) → (∀ k, M 1 7 ≤ k → k < 12 → M' 30 k = 0) → V a ≠ V b → (∀ V', GV M V' → V' a ≠ V' b → mk_n (nV M V) (M 1 7).toNat ≤ mk_n (nV M V') (M 1 7).toNat) → Q (.inl (some (.inl 0))) M')
    (hq1 : ∀ M' : pm_M, (∀ c, c ≠ 24 → c ≠ 30 → c ≠ 31 → c ≠ 32 → M' c = M c) → (∀ j, j ≠ 0 → M' 24 j = M 24 j) → M' 24 0 = 0 → (∀ k, 0 ≤ k → k < 12 → M' 30 k = M 30 k) → (∀ V, GV M V → V a = V b) → Q (.inl (some (.inl 1))) M') :
    pm_X L (81, 0, [some (.inr (.inl 24)), some (.inl a), some (.inl b), none], [], M) Q := by
  have k1 := hR.2.2.1
  have hN := hR.2.1.1
  refine s_81_0 ⟨fun z => by omega, fun _ => ⟨fun _ => ⟨fun z => by omega, fun _ => ⟨fun _ => ?_, fun z => by omega⟩⟩, fun z => by omega⟩⟩
  generalize hM1 : pm_set M 24 0 0 = M1
  have o1 : ∀ c, c ≠ 24 → M1 c = M c := fun c hc => by rw [← hM1]; exact pm_set_off c hc
  have o2 : ∀ j, j ≠ 0 → M1 24 j = M 24 j := fun j hj => by rw [← hM1]; exact pm_get_j hj rfl
  have o3 : M1 24 0 = 0 := by rw [← hM1]; exact pm_get_e
  have e1 : M1 1 = M 1 := o1 1 (by decide)
  have e7 : M1 7 = M 7 := o1 7 (by decide)
  have e8 : M1 8 = M 8 := o1 8 (by decide)
  have e9 : M1 9 = M 9 := o1 9 (by decide)
  have e12 : M1 12 = M 12 := o1 12 (by decide)
  have e30 : M1 30 = M 30 := o1 30 (by decide)
  have hR1 : RK M1 := hR.of e1 e7 e8 e9 e12 (o2 1 (by decide)) (o2 2 (by decide)) (o1 25 (by decide)) (o1 26 (by decide)) (o1 27 (by decide)) (o1 28 (by decide))
  have gvi : ∀ V, GV M V → GV M1 V := fun V h => h.of e1 e7 e8 e9
  have gvj : ∀ V, GV M1 V → GV M V := fun V h => h.of e1.symm e7.symm e8.symm e9.symm
  have en : ∀ V, nV M1 V = nV M V := fun V => by unfold nV; rw [e12]
  refine p_75 (by rw [e30]; exact hb) (fun M2 f1 f2 f3 => x_bkv rfl (s_81_40 ?_))
  have z : mk_n (nIn (M2 30)) (M1 1 7).toNat = 0 := by
    rw [mk_ext (P' := fun _ => false) _ (fun i hi => by
      unfold nIn
      rw [e1] at hi
      rw [f3 i (by omega) (by omega)]
      rfl), mk_zero]
  refine p_81l hR1 (K := M 30) rfl (by rw [e1]; exact ha) (by rw [e1]; exact hbb) hb ?_ ?_ _ M2 (Nat.le_refl _) (fun c x y _ => f1 c x y) (fun k ka kb => by rw [f3 k ka kb]; exact Or.inl rfl) (by rw [e1]; exact fun k ka kb => f3 k (by omega) kb) (by rw [e30] at f2; exact f2) (fun V' _ _ => by rw [z]; omega)
  · rw [e1, e12]
    intro M3 V g1 w1 w2 w3 w4 w5
    have f24 : M3 24 = M1 24 := g1 24 (by decide) (by decide) (by decide)
    refine hq0 M3 V (fun c x y d e => (g1 c y d e).trans (o1 c x)) (by rw [f24]; exact o2) (by rw [f24]; exact o3) (gvj V w1) w2 w3 w4 (fun V' u1 u2 => ?_)
    have := w5 V' (gvi V' u1) u2
    rw [en, en] at this
    exact this
  · intro M3 g1 w1 w2
    have f24 : M3 24 = M1 24 := g1 24 (by decide) (by decide) (by decide)
    exact hq1 M3 (fun c x y d e => (g1 c y d e).trans (o1 c x)) (by rw [f24]; exact o2) (by rw [f24]; exact o3) w1 (fun V u1 => w2 V (gvi V u1))
