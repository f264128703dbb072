/-! PURE: the reference's value, asked of a formula that is there -/
theorem p_83 {L : Nat} {Q : pm_P} {M : pm_M} {a : Int} {V : Int → Bool} (hR : RK M) (ha : 0 ≤ a ∧ a < M 1 6) (hV : GV M V) (hin : ∀ k, 0 ≤ k → k < M 1 7 → M 30 k = b01 (V (M 12 k)))
    (hq : ∀ M' : pm_M, (∀ c, c ≠ 24 → c ≠ 32 → M' c = M c) → (∀ j, j ≠ 0 → M' 24 j = M 24 j) → M' 24 0 = 0 → Q (.inl (some (.inl (b01 (V a))))) M') :
    pm_X L (83, 0, [some (.inr (.inl 24)), some (.inl a)], [], M) Q := by
  have k1 := hR.2.2.1
  have hF := hR.1.1
  refine s_83_0 ⟨fun z => by omega, fun _ => ⟨fun _ => ?_, fun z => by omega⟩⟩
  generalize hM1 : pm_set M 24 0 0 = M1
  have o1 : ∀ c, c ≠ 24 → M1 c = M c := fun c hc => by rw [← hM1]; exact pm_set_off c hc
  have o2 : ∀ j, j ≠ 0 → M1 24 j = M 24 j := fun j hj => by rw [← hM1]; exact pm_get_j hj rfl
  have o3 : M1 24 0 = 0 := by rw [← hM1]; exact pm_get_e
  have e1 : M1 1 = M 1 := o1 1 (by decide)
  have e7 : M1 7 = M 7 := o1 7 (by decide)
  have e8 : M1 8 = M 8 := o1 8 (by decide)
  have e9 : M1 9 = M 9 := o1 9 (by decide)
  have e12 : M1 12 = M 12 := o1 12 (by decide)
  have e30 : M1 30 = M 30 := o1 30 (by decide)
  have hR1 : RK M1 := hR.of e1 e7 e8 e9 e12 (o2 1 (by decide)) (o2 2 (by decide)) (o1 25 (by decide)) (o1 26 (by decide)) (o1 27 (by decide)) (o1 28 (by decide))
  refine p_73 (V := V) hR1.1.1 hR1.2.1.1.2 hR1.2.2.1 hR1.2.2.2.2.1 (hV.of e1 e7 e8 e9) (by rw [e1, e12, e30]; exact hin) (fun M2 f1 v1 => x_bkv rfl (s_83_24 ?_))
  rw [e1] at v1
  have f24 : M2 24 = M1 24 := f1 24 (by decide)
  rw [v1 a ha.1 ha.2]
  exact ⟨⟨ha.1, by omega⟩, b01_bit _, hq M2 (fun c x y => (f1 c y).trans (o1 c x)) (by rw [f24]; exact o2) (by rw [f24]; exact o3)⟩
